/-! ===== the class's ALU instructions, whole ===== -/
section CALG
variable {τ σ ρ : MS} {k j : Nat} {E : EV} {w : B64} {S : ST} {t : Int}
abbrev alQ (w : B64) : Prop := rgt w ∧ ¬ fC w = 208
abbrev alL (S : ST) (w : B64) : Int := if fC w = 176 then 1 else vk (rgV S (dR w))
abbrev alR (S : ST) (w : B64) : Int := if alQ w then vk (rgV S (sRr w)) else 1
theorem L247 (H : SC σ k j E w) (hS : CSt σ k S) (P : PX S E t) (hd : fD w ≤ 9) (hs : rgt w → fS w ≤ 10) : MM 247 [mR (some 40)] σ = RR (lkB tb247) (B247_94, [some (mR (some 40)), some (mI (fC w)), some (mI (b2 (wid w))), some (mI (b2 (alQ w))), some (mI ((pR S (dR w) : Nat) : Int)), some (mI (alL S w)), none], [mI (alR S w)], σ) := by
  have F := PX_F P
  have fp := sc_p H
  have t41 := T241 H hS F (show fD w ≤ 10 by omega)
  have t43 := T243 H
  have td := T214r H hS P (r := dR w) (dR_10 (show fD w ≤ 10 by omega))
  have s31 : MM 247 [mR (some 40)] σ = RR (lkB tb247) (B247_31, [some (mR (some 40)), some (mI (fC w)), some (mI (b2 (wid w))), none, none, none, none], [mI (b2 (rgt w))], σ) := by
    by_cases w7 : fL w = 7
    · simp only [M247, e247_0, e247_26, Option.getD_some, Option.bind_some, Option.toList_some, Option.toList_none, List.cons_append, List.nil_append, and_self, and_true, true_and, false_and, and_false, ite_self, not_true_eq_false, not_false_eq_true, reduceIte, Nat.reduceEqDiff, ab_I, ab_L, ab_R, ao_I, ao_L, ao_R, gL_sL, gI_sI, gR_sR, gI_sL, gI_sR, gL_sI, gL_sR, gR_sI, gR_sL, fp, m7, mC, w7, t43, b2_yes trivial]
      rw [b2_yes (p := wid w) w7]
    · rw [b2_no (p := wid w) w7]
      have w7' : ¬ fL w = 7 := w7
      simp only [M247, e247_0, e247_26, Option.getD_some, Option.bind_some, Option.toList_some, Option.toList_none, List.cons_append, List.nil_append, and_self, and_true, true_and, false_and, and_false, ite_self, not_true_eq_false, not_false_eq_true, reduceIte, Nat.reduceEqDiff, ab_I, ab_L, ab_R, ao_I, ao_L, ao_R, gL_sL, gI_sI, gR_sR, gI_sL, gI_sR, gL_sI, gL_sR, gR_sI, gR_sL, fp, m7, mC, w7', t43]
  have s46 : MM 247 [mR (some 40)] σ = RR (lkB tb247) (B247_46, [some (mR (some 40)), some (mI (fC w)), some (mI (b2 (wid w))), none, none, none, none], [mI (b2 (alQ w))], σ) := by
    rw [s31]
    by_cases r : rgt w
    · by_cases c : fC w = 208
      · rw [b2_no (p := alQ w) (fun z => z.2 c), b2_yes r]
        simp only [e247_31, e247_45, Option.getD_some, Option.bind_some, Option.toList_some, Option.toList_none, List.cons_append, List.nil_append, and_self, and_true, true_and, false_and, and_false, ite_self, not_true_eq_false, not_false_eq_true, reduceIte, Nat.reduceEqDiff, ab_I, ab_L, ab_R, ao_I, ao_L, ao_R, gL_sL, gI_sI, gR_sR, gI_sL, gI_sR, gL_sI, gL_sR, gR_sI, gR_sL, oneI, c]
      · rw [b2_yes (p := alQ w) ⟨r, c⟩, b2_yes r]
        simp only [e247_31, e247_45, Option.getD_some, Option.bind_some, Option.toList_some, Option.toList_none, List.cons_append, List.nil_append, and_self, and_true, true_and, false_and, and_false, ite_self, not_true_eq_false, not_false_eq_true, reduceIte, Nat.reduceEqDiff, ab_I, ab_L, ab_R, ao_I, ao_L, ao_R, gL_sL, gI_sI, gR_sR, gI_sL, gI_sR, gL_sI, gL_sR, gR_sI, gR_sL, oneI, c]
    · rw [b2_no (p := alQ w) (fun z => r z.1), b2_no r]
      simp only [e247_31, e247_45, Option.getD_some, Option.bind_some, Option.toList_some, Option.toList_none, List.cons_append, List.nil_append, and_self, and_true, true_and, false_and, and_false, ite_self, not_true_eq_false, not_false_eq_true, reduceIte, Nat.reduceEqDiff, ab_I, ab_L, ab_R, ao_I, ao_L, ao_R, gL_sL, gI_sI, gR_sR, gI_sL, gI_sR, gL_sI, gL_sR, gR_sI, gR_sL]
  have s73 : MM 247 [mR (some 40)] σ = RR (lkB tb247) (B247_73, [some (mR (some 40)), some (mI (fC w)), some (mI (b2 (wid w))), some (mI (b2 (alQ w))), some (mI ((pR S (dR w) : Nat) : Int)), none, none], [mI (alL S w)], σ) := by
    rw [s46]
    by_cases c : fC w = 176
    · rw [show alL S w = 1 from if_pos c]
      simp only [e247_46, e247_51, Option.getD_some, Option.bind_some, Option.toList_some, Option.toList_none, List.cons_append, List.nil_append, and_self, and_true, true_and, false_and, and_false, ite_self, not_true_eq_false, not_false_eq_true, reduceIte, Nat.reduceEqDiff, ab_I, ab_L, ab_R, ao_I, ao_L, ao_R, gL_sL, gI_sI, gR_sR, gI_sL, gI_sR, gL_sI, gL_sR, gR_sI, gR_sL, t41, c]
    · rw [show alL S w = vk (rgV S (dR w)) from if_neg c]
      simp only [e247_46, e247_51, Option.getD_some, Option.bind_some, Option.toList_some, Option.toList_none, List.cons_append, List.nil_append, and_self, and_true, true_and, false_and, and_false, ite_self, not_true_eq_false, not_false_eq_true, reduceIte, Nat.reduceEqDiff, ab_I, ab_L, ab_R, ao_I, ao_L, ao_R, gL_sL, gI_sI, gR_sR, gI_sL, gI_sR, gL_sI, gL_sR, gR_sI, gR_sL, t41, c, sc_h H, sc_ao H, td]
  rw [s73]
  by_cases s : alQ w
  · rw [show alR S w = vk (rgV S (sRr w)) from if_pos s, b2_yes s]
    have ts := T214r H hS P (r := sRr w) (sR_10 (hs s.1))
    simp only [e247_73, e247_87, e247_90, Option.getD_some, Option.bind_some, Option.toList_some, Option.toList_none, List.cons_append, List.nil_append, and_self, and_true, true_and, false_and, and_false, ite_self, not_true_eq_false, not_false_eq_true, reduceIte, Nat.reduceEqDiff, ab_I, ab_L, ab_R, ao_I, ao_L, ao_R, gL_sL, gI_sI, gR_sR, gI_sL, gI_sR, gL_sI, gL_sR, gR_sI, gR_sL, oneI, T242 H hS F (hs s.1), sc_h H, sc_ao H, ts]
  · rw [show alR S w = 1 from if_neg s, b2_no s]
    simp only [e247_73, Option.getD_some, Option.bind_some, Option.toList_some, Option.toList_none, List.cons_append, List.nil_append, and_self, and_true, true_and, false_and, and_false, ite_self, not_true_eq_false, not_false_eq_true, reduceIte, Nat.reduceEqDiff, ab_I, ab_L, ab_R, ao_I, ao_L, ao_R, gL_sL, gI_sI, gR_sR, gI_sL, gI_sR, gL_sI, gL_sR, gR_sI, gR_sL]
/-- a fault -/
theorem spo_e {f n t' : Int} {S' : ST} (hf : ¬ f = 0) : spo σ σ k j f S' n t' := spo_f hf (sfq_r _ _ _)
theorem T247 (H : SC σ k j E w) (hS : CSt σ k S) (P : PX S E t) (ht : gI σ 40 8 = t) (hw : okAlu w) (hl : fL w = 4 ∨ fL w = 7) : okc (MM 247 [mR (some 40)] σ) (some (mI (aluV S w t).1)) (fun τ => spo σ τ k j (aluV S w t).1 (wV S (dR w) (aluV S w t).2.1) (gI σ 40 4) (aluV S w t).2.2) := by
  have F := PX_F P
  have sc := sc_c H
  have hd : fD w ≤ 9 := hw.1.1
  have hc8 := hw.1.2
  have hs : rgt w → fS w ≤ 10 := fun r => by
    have := hw.2
    split at this
    · omega
    · split at this
      · exact absurd r this.1
      · exact this.1.1
  have hd' : dR w ≤ 9 := by have := dR_9 hd; omega
  -- the sides are numbers
  have num : (fC w = 176 ∨ vk (rgV S (dR w)) = 1) → (fC w = 208 ∨ vk (rgtV S w) = 1) → aluV S w t = (0, numV (resN w (vn (rgV S (dR w))) (vn (rgtV S w))), t) → okc (RR (lkB tb247) (B247_161, [some (mR (some 40)), some (mI (fC w)), some (mI (b2 (wid w))), some (mI (b2 (alQ w))), some (mI ((pR S (dR w) : Nat) : Int)), some (mI 1), some (mI 1)], [mI 0], σ)) (some (mI (aluV S w t).1)) (fun τ => spo σ τ k j (aluV S w t).1 (wV S (dR w) (aluV S w t).2.1) (gI σ 40 4) (aluV S w t).2.2) := fun hL hR ha => by
    obtain ⟨X, Y, t48, eX, eY⟩ := T248 H hS P (show fD w ≤ 10 by omega) hs
    obtain ⟨σ1, hσ1⟩ : ∃ σ1, σ1 = wC (wC σ 42 X) 43 Y := ⟨_, rfl⟩
    have q1 : nfq σ1 σ := by rw [hσ1]; exact nfq_t (nfq_w (by omega)) (nfq_w (by omega))
    rw [← hσ1] at t48
    have H1 := SC_n q1 H
    have r42 : rC σ1 42 = X := by rw [hσ1, rC_wC, if_neg (by decide), rC_wC, if_pos rfl]
    have r43 : rC σ1 43 = Y := by rw [hσ1, rC_wC, if_pos rfl]
    obtain ⟨τ, t49, e44, q2⟩ := T249 (σ := σ1) hw hl (sc_w H1) (sc_p H1) r42 r43
    have er : resN w X Y = resN w (vn (rgV S (dR w))) (vn (rgtV S w)) := by
      unfold resN
      by_cases c208 : fC w = 208
      · rw [if_pos c208, if_pos c208, eX (by have := hL.resolve_left (by omega); omega)]
      · have k1 := hR.resolve_left c208
        have eY := eY (fun r => by
          have e : rgtV S w = rgV S (sRr w) := if_pos r
          rw [← e]; omega)
        rw [if_neg c208, if_neg c208, eY]
        by_cases c176 : fC w = 176
        · rw [if_neg (show ¬ fC w = 128 by omega), if_neg (show ¬ fC w = 128 by omega), if_pos c176, if_pos c176]
        · rw [eX (by have := hL.resolve_left c176; omega)]
    rw [er] at e44
    have q3 := nfq_t q2 q1
    have H3 := SC_n q3 H
    obtain ⟨τ2, t18, q18⟩ := T218 (j := 44) (pl := pR S (dR w)) (sc_k H3) (kc_44 τ) (by omega) (by have := pR_lt F (dR_10 (show fD w ≤ 10 by omega)); omega)
    rw [e44] at q18
    rw [ha]
    have sp := spo_w (j := j) H hS F hd' q3 q18
    rw [ht] at sp
    refine okc_o (τ := τ2) ?_ sp
    simp only [e247_161, e247_183, e247_189, e247_202, Option.getD_some, Option.bind_some, Option.toList_some, Option.toList_none, List.cons_append, List.nil_append, and_self, and_true, true_and, false_and, and_false, ite_self, not_true_eq_false, not_false_eq_true, reduceIte, Nat.reduceEqDiff, ab_I, ab_L, ab_R, ao_I, ao_L, ao_R, gL_sL, gI_sI, gR_sR, gI_sL, gI_sR, gL_sI, gL_sR, gR_sI, gR_sL, t48, t49, sc_h H3, sc_ao H3, t18]
  have kL := PX_k P (dR_10 (show fD w ≤ 10 by omega))
  have cR : ¬ fC w = 208 → alR S w = vk (rgtV S w) := fun c => by
    unfold rgtV
    by_cases r : rgt w
    · rw [show alR S w = vk (rgV S (sRr w)) from if_pos ⟨r, c⟩, if_pos r]
    · rw [show alR S w = 1 from if_neg (fun z => r z.1), if_neg r]
      rfl
  rw [L247 H hS P hd hs]
  by_cases c208 : fC w = 208
  · -- turned bytes
    have nS : ¬ alQ w := fun z => z.2 c208
    have eR : alR S w = 1 := if_neg nS
    have eL : alL S w = vk (rgV S (dR w)) := if_neg (by omega)
    have ha : aluV S w t = (if ¬ fst (wntS (rgV S (dR w))) (wntN (rgV S (dR w)) (rgV S (dR w))) = 0 then (fst (wntS (rgV S (dR w))) (wntN (rgV S (dR w)) (rgV S (dR w))), unsV, t) else (0, numV (trnN (decide (fOp w = 212)) (fI w).toNat (vn (rgV S (dR w)))), t)) := if_pos c208
    rw [eR, eL]
    by_cases z0 : vk (rgV S (dR w)) = 0
    · have e : fst (wntS (rgV S (dR w))) (wntN (rgV S (dR w)) (rgV S (dR w))) = 3 := by
        unfold wntS
        rw [if_pos z0]
        rfl
      rw [e, if_pos (by decide)] at ha
      rw [ha]
      refine okc_o (τ := σ) ?_ (spo_e (by show ¬ (3 : Int) = 0; decide))
      simp only [e247_94, Option.getD_some, Option.bind_some, Option.toList_some, Option.toList_none, List.cons_append, List.nil_append, and_self, and_true, true_and, false_and, and_false, ite_self, not_true_eq_false, not_false_eq_true, reduceIte, Nat.reduceEqDiff, ab_I, ab_L, ab_R, ao_I, ao_L, ao_R, gL_sL, gI_sI, gR_sR, gI_sL, gI_sR, gL_sI, gL_sR, gR_sI, gR_sL, z0]
    · have ws : wntS (rgV S (dR w)) = 0 := if_neg z0
      rw [ws, fst0] at ha
      by_cases mb : isMb (rgV S (dR w))
      · have e : wntN (rgV S (dR w)) (rgV S (dR w)) = 14 := if_pos (Or.inl mb)
        rw [e, if_pos (by decide)] at ha
        rw [ha]
        refine okc_o (τ := σ) ?_ (spo_e (by show ¬ (14 : Int) = 0; decide))
        have c176 : ¬ fC w = 176 := by omega
        simp only [e247_94, e247_148, e247_153, Option.getD_some, Option.bind_some, Option.toList_some, Option.toList_none, List.cons_append, List.nil_append, and_self, and_true, true_and, false_and, and_false, ite_self, not_true_eq_false, not_false_eq_true, reduceIte, Nat.reduceEqDiff, ab_I, ab_L, ab_R, ao_I, ao_L, ao_R, gL_sL, gI_sI, gR_sR, gI_sL, gI_sR, gL_sI, gL_sR, gR_sI, gR_sL, z0, oneI, c176, T244, b2_n', eq_true mb]
      · by_cases k1 : vk (rgV S (dR w)) = 1
        · have e : wntN (rgV S (dR w)) (rgV S (dR w)) = 0 := by
            unfold wntN
            rw [if_neg (fun z => z.elim mb mb), if_neg (fun z => z.elim (fun q => q k1) (fun q => q k1))]
          rw [e, if_neg (by decide)] at ha
          have er : resN w (vn (rgV S (dR w))) (vn (rgtV S w)) = trnN (decide (fOp w = 212)) (fI w).toNat (vn (rgV S (dR w))) := if_pos c208
          have n := num (Or.inr k1) (Or.inl c208) (by rw [ha, er])
          have c176 : ¬ fC w = 176 := by omega
          have o16 : ¬ (1 : Int) = 6 ∧ ¬ (1 : Int) = 10 := by decide
          simp only [e247_94, e247_148, e247_153, Option.getD_some, Option.bind_some, Option.toList_some, Option.toList_none, List.cons_append, List.nil_append, and_self, and_true, true_and, false_and, and_false, ite_self, not_true_eq_false, not_false_eq_true, reduceIte, Nat.reduceEqDiff, ab_I, ab_L, ab_R, ao_I, ao_L, ao_R, gL_sL, gI_sI, gR_sR, gI_sL, gI_sR, gL_sI, gL_sR, gR_sI, gR_sL, k1, oneI, c176, T244, b2_n', o16.1, o16.2, or_self, b2_no not_false]
          exact n
        · have e : wntN (rgV S (dR w)) (rgV S (dR w)) = 4 := by
            unfold wntN
            rw [if_neg (fun z => z.elim mb mb), if_pos (Or.inl k1)]
          rw [e, if_pos (by decide)] at ha
          rw [ha]
          refine okc_o (τ := σ) ?_ (spo_e (by show ¬ (4 : Int) = 0; decide))
          have c176 : ¬ fC w = 176 := by omega
          have mb' : ¬ (vk (rgV S (dR w)) = 6 ∨ vk (rgV S (dR w)) = 10) := mb
          have g16 : 16 < fC w := by omega
          have o16 : ¬ (1 : Int) = 6 ∧ ¬ (1 : Int) = 10 := by decide
          by_cases w7 : wid w
          · simp only [e247_94, e247_148, e247_153, e247_161, e247_204, e247_234, Option.getD_some, Option.bind_some, Option.toList_some, Option.toList_none, List.cons_append, List.nil_append, and_self, and_true, true_and, false_and, and_false, ite_self, not_true_eq_false, not_false_eq_true, reduceIte, Nat.reduceEqDiff, ab_I, ab_L, ab_R, ao_I, ao_L, ao_R, gL_sL, gI_sI, gR_sR, gI_sL, gI_sR, gL_sI, gL_sR, gR_sI, gR_sL, z0, oneI, c176, T244, b2_n', b2_0', mb', o16.1, o16.2, or_self, k1, b2_yes w7, g16]
          · simp only [e247_94, e247_148, e247_153, e247_161, e247_204, e247_234, Option.getD_some, Option.bind_some, Option.toList_some, Option.toList_none, List.cons_append, List.nil_append, and_self, and_true, true_and, false_and, and_false, ite_self, not_true_eq_false, not_false_eq_true, reduceIte, Nat.reduceEqDiff, ab_I, ab_L, ab_R, ao_I, ao_L, ao_R, gL_sL, gI_sI, gR_sR, gI_sL, gI_sR, gL_sI, gL_sR, gR_sI, gR_sL, z0, oneI, c176, T244, b2_n', b2_0', mb', o16.1, o16.2, or_self, k1, b2_no w7]
  · have cR := cR c208
    rw [cR]
    have a0 : aluV S w t = (if ¬ fC w = 176 ∧ vk (rgV S (dR w)) = 0 then (3, unsV, t)
      else if vk (rgtV S w) = 0 then (3, unsV, t)
      else if fC w = 176 then ((movV w (rgtV S w)).1, (movV w (rgtV S w)).2, t)
      else if fC w = 128 then
        (if ¬ wntN (rgV S (dR w)) (rgV S (dR w)) = 0 then (wntN (rgV S (dR w)) (rgV S (dR w)), unsV, t)
         else if wid w then (0, numV (negN (vn (rgV S (dR w)))), t)
         else (0, numV (cutT (negN (cutT (vn (rgV S (dR w)))))), t))
      else if (wid w ∧ ¬ (isMb (rgV S (dR w)) ∨ isMb (rgtV S w))) ∧ (fC w = 0 ∨ fC w = 16) ∧ mvs (rgV S (dR w)) ∧ vk (rgtV S w) = 1 then shfV (rgV S (dR w)) (vn (rgtV S w)) (fC w) t
      else if (wid w ∧ ¬ (isMb (rgV S (dR w)) ∨ isMb (rgtV S w))) ∧ fC w = 0 ∧ vk (rgV S (dR w)) = 1 ∧ mvs (rgtV S w) then shfV (rgtV S w) (vn (rgV S (dR w))) (fC w) t
      else if ¬ wntN (rgV S (dR w)) (rgtV S w) = 0 then (wntN (rgV S (dR w)) (rgtV S w), unsV, t)
      else if wid w then (0, numV (opN (fC w) (fO w) (vn (rgV S (dR w))) (vn (rgtV S w))), t)
      else (0, numV (opW (fC w) (fO w) (vn (rgV S (dR w))) (vn (rgtV S w))), t)) := if_neg c208
    have f3 : aluV S w t = (3, unsV, t) → (alL S w = 0 ∨ vk (rgtV S w) = 0) → okc (RR (lkB tb247) (B247_94, [some (mR (some 40)), some (mI (fC w)), some (mI (b2 (wid w))), some (mI (b2 (alQ w))), some (mI ((pR S (dR w) : Nat) : Int)), some (mI (alL S w)), none], [mI (vk (rgtV S w))], σ)) (some (mI (aluV S w t).1)) (fun τ => spo σ τ k j (aluV S w t).1 (wV S (dR w) (aluV S w t).2.1) (gI σ 40 4) (aluV S w t).2.2) := fun ha h => by
      rw [ha]
      refine okc_o (τ := σ) ?_ (spo_e (by show ¬ (3 : Int) = 0; decide))
      by_cases q : alL S w = 0
      · simp only [e247_94, Option.getD_some, Option.bind_some, Option.toList_some, Option.toList_none, List.cons_append, List.nil_append, and_self, and_true, true_and, false_and, and_false, ite_self, not_true_eq_false, not_false_eq_true, reduceIte, Nat.reduceEqDiff, ab_I, ab_L, ab_R, ao_I, ao_L, ao_R, gL_sL, gI_sI, gR_sR, gI_sL, gI_sR, gL_sI, gL_sR, gR_sI, gR_sL, q]
      · have q2 := h.resolve_left q
        simp only [e247_94, Option.getD_some, Option.bind_some, Option.toList_some, Option.toList_none, List.cons_append, List.nil_append, and_self, and_true, true_and, false_and, and_false, ite_self, not_true_eq_false, not_false_eq_true, reduceIte, Nat.reduceEqDiff, ab_I, ab_L, ab_R, ao_I, ao_L, ao_R, gL_sL, gI_sI, gR_sR, gI_sL, gI_sR, gL_sI, gL_sR, gR_sI, gR_sL, q, q2]
    by_cases u1 : ¬ fC w = 176 ∧ vk (rgV S (dR w)) = 0
    · rw [if_pos u1] at a0
      exact f3 a0 (Or.inl (by rw [show alL S w = vk (rgV S (dR w)) from if_neg u1.1]; exact u1.2))
    · rw [if_neg u1] at a0
      by_cases u2 : vk (rgtV S w) = 0
      · rw [if_pos u2] at a0
        exact f3 a0 (Or.inr u2)
      · rw [if_neg u2] at a0
        have kR0 : ¬ vk (rgtV S w) = 0 := u2
        by_cases c176 : fC w = 176
        · -- moves
          rw [if_pos c176] at a0
          have eL : alL S w = 1 := if_pos c176
          rw [eL]
          by_cases mv : wid w ∧ fO w = 0
          · have e : movV w (rgtV S w) = (0, rgtV S w) := if_pos mv
            rw [e] at a0
            by_cases s : alQ w
            · -- a register, whole
              have er : rgtV S w = rgV S (sRr w) := if_pos s.1
              obtain ⟨τ, t16, q16⟩ := T216 (a := pR S (sRr w)) (b := pR S (dR w)) (sc_k H) (pR_lt F (sR_10 (hs s.1))) (pR_lt F (dR_10 (show fD w ≤ 10 by omega))) (cAt_rg hS F.1 (sR_10 (hs s.1)))
              rw [a0, er]
              have sp := spo_w (j := j) H hS F hd' (nfq_r σ) q16
              rw [ht] at sp
              refine okc_o (τ := τ) ?_ sp
              rw [er] at kR0
              simp only [e247_94, e247_130, e247_141, e247_146, Option.getD_some, Option.bind_some, Option.toList_some, Option.toList_none, List.cons_append, List.nil_append, and_self, and_true, true_and, false_and, and_false, ite_self, not_true_eq_false, not_false_eq_true, reduceIte, Nat.reduceEqDiff, ab_I, ab_L, ab_R, ao_I, ao_L, ao_R, gL_sL, gI_sI, gR_sR, gI_sL, gI_sR, gL_sI, gL_sR, gR_sI, gR_sL, oneI, kR0, c176, b2_yes mv.1, b2_yes s, sc_w H, T3, mv.2, T242 H hS F (hs s.1), sc_h H, sc_ao H, t16]
            · have nr : ¬ rgt w := fun z => s ⟨z, c208⟩
              have er : rgtV S w = numV (cstN (BitVec.ofInt 64 (fI w))) := if_neg nr
              have k1 : vk (rgtV S w) = 1 := by rw [er]; rfl
              have rs : resN w (vn (rgV S (dR w))) (vn (rgtV S w)) = vn (rgtV S w) := by
                unfold resN
                rw [if_neg c208, if_neg (by omega), if_pos c176]
                unfold movV
                rw [if_pos mv]
                rfl
              have n := num (Or.inl c176) (Or.inr k1) (by rw [a0, rs, er]; rfl)
              have o16 : ¬ (1 : Int) = 6 ∧ ¬ (1 : Int) = 10 := by decide
              rw [b2_no s] at n ⊢
              simp only [e247_94, e247_148, e247_153, Option.getD_some, Option.bind_some, Option.toList_some, Option.toList_none, List.cons_append, List.nil_append, and_self, and_true, true_and, false_and, and_false, ite_self, not_true_eq_false, not_false_eq_true, reduceIte, Nat.reduceEqDiff, ab_I, ab_L, ab_R, ao_I, ao_L, ao_R, gL_sL, gI_sI, gR_sR, gI_sL, gI_sR, gL_sI, gL_sR, gR_sI, gR_sL, oneI, k1, c176, b2_yes mv.1, T244, b2_n', o16.1, o16.2, or_self, b2_no not_false]
              rw [c176, b2_yes mv.1] at n
              exact n
          · -- cut or extended
            have s148 : RR (lkB tb247) (B247_94, [some (mR (some 40)), some (mI (fC w)), some (mI (b2 (wid w))), some (mI (b2 (alQ w))), some (mI ((pR S (dR w) : Nat) : Int)), some (mI 1), none], [mI (vk (rgtV S w))], σ) = RR (lkB tb247) (B247_148, [some (mR (some 40)), some (mI (fC w)), some (mI (b2 (wid w))), some (mI (b2 (alQ w))), some (mI ((pR S (dR w) : Nat) : Int)), some (mI 1), some (mI (vk (rgtV S w)))], [], σ) := by
              by_cases w7 : wid w
              · have o0 : ¬ fO w = 0 := fun z => mv ⟨w7, z⟩
                by_cases s : alQ w
                · simp only [e247_94, e247_130, Option.getD_some, Option.bind_some, Option.toList_some, Option.toList_none, List.cons_append, List.nil_append, and_self, and_true, true_and, false_and, and_false, ite_self, not_true_eq_false, not_false_eq_true, reduceIte, Nat.reduceEqDiff, ab_I, ab_L, ab_R, ao_I, ao_L, ao_R, gL_sL, gI_sI, gR_sR, gI_sL, gI_sR, gL_sI, gL_sR, gR_sI, gR_sL, oneI, kR0, c176, b2_yes w7, b2_yes s, sc_w H, T3, o0]
                · simp only [e247_94, Option.getD_some, Option.bind_some, Option.toList_some, Option.toList_none, List.cons_append, List.nil_append, and_self, and_true, true_and, false_and, and_false, ite_self, not_true_eq_false, not_false_eq_true, reduceIte, Nat.reduceEqDiff, ab_I, ab_L, ab_R, ao_I, ao_L, ao_R, gL_sL, gI_sI, gR_sR, gI_sL, gI_sR, gL_sI, gL_sR, gR_sI, gR_sL, oneI, kR0, c176, b2_yes w7, b2_no s]
              · simp only [e247_94, Option.getD_some, Option.bind_some, Option.toList_some, Option.toList_none, List.cons_append, List.nil_append, and_self, and_true, true_and, false_and, and_false, ite_self, not_true_eq_false, not_false_eq_true, reduceIte, Nat.reduceEqDiff, ab_I, ab_L, ab_R, ao_I, ao_L, ao_R, gL_sL, gI_sI, gR_sR, gI_sL, gI_sR, gL_sI, gL_sR, gR_sI, gR_sL, oneI, kR0, c176, b2_no w7]
            have o16 : ¬ (1 : Int) = 6 ∧ ¬ (1 : Int) = 10 := by decide
            rw [s148]
            by_cases mb : isMb (rgtV S w)
            · have e : movV w (rgtV S w) = (14, rgtV S w) := by
                unfold movV
                have wn : wntN (rgtV S w) (rgtV S w) = 14 := if_pos (Or.inl mb)
                rw [if_neg mv, wn, if_pos (by decide)]
              rw [e] at a0
              rw [a0]
              refine okc_o (τ := σ) ?_ (spo_e (by show ¬ (14 : Int) = 0; decide))
              have mb' : vk (rgtV S w) = 6 ∨ vk (rgtV S w) = 10 := mb
              simp only [e247_148, e247_153, e247_161, Option.getD_some, Option.bind_some, Option.toList_some, Option.toList_none, List.cons_append, List.nil_append, and_self, and_true, true_and, false_and, and_false, ite_self, not_true_eq_false, not_false_eq_true, reduceIte, Nat.reduceEqDiff, ab_I, ab_L, ab_R, ao_I, ao_L, ao_R, gL_sL, gI_sI, gR_sR, gI_sL, gI_sR, gL_sI, gL_sR, gR_sI, gR_sL, T244, b2_n', b2_0', o16.1, o16.2, or_self, mb']
            · have mb' : ¬ (vk (rgtV S w) = 6 ∨ vk (rgtV S w) = 10) := mb
              by_cases k1 : vk (rgtV S w) = 1
              · have wn : wntN (rgtV S w) (rgtV S w) = 0 := by
                  unfold wntN
                  rw [if_neg (fun z => z.elim mb mb), if_neg (fun z => z.elim (fun q => q k1) (fun q => q k1))]
                have rs : ((movV w (rgtV S w)).1, (movV w (rgtV S w)).2, t) = ((0 : Int), numV (resN w (vn (rgV S (dR w))) (vn (rgtV S w))), t) := by
                  unfold resN
                  rw [if_neg c208, if_neg (show ¬ fC w = 128 by omega), if_pos c176]
                  unfold movV
                  have wn' : wntN (numV (vn (rgtV S w))) (numV (vn (rgtV S w))) = 0 := rfl
                  rw [if_neg mv, if_neg mv, wn, wn']
                  by_cases o0 : fO w = 0
                  · simp only [o0, if_true, not_true_eq_false, if_false]
                    rfl
                  · by_cases w7 : wid w
                    · simp only [o0, not_true_eq_false, if_false]
                      rw [if_pos w7, if_pos w7]
                      rfl
                    · simp only [o0, not_true_eq_false, if_false]
                      rw [if_neg w7, if_neg w7]
                      rfl
                have n := num (Or.inl c176) (Or.inr k1) (by rw [a0, rs])
                rw [k1]
                simp only [e247_148, e247_153, Option.getD_some, Option.bind_some, Option.toList_some, Option.toList_none, List.cons_append, List.nil_append, and_self, and_true, true_and, false_and, and_false, ite_self, not_true_eq_false, not_false_eq_true, reduceIte, Nat.reduceEqDiff, ab_I, ab_L, ab_R, ao_I, ao_L, ao_R, gL_sL, gI_sI, gR_sR, gI_sL, gI_sR, gL_sI, gL_sR, gR_sI, gR_sL, T244, b2_n', o16.1, o16.2, or_self, b2_no not_false]
                exact n
              · have wn : wntN (rgtV S w) (rgtV S w) = 4 := by
                  unfold wntN
                  rw [if_neg (fun z => z.elim mb mb), if_pos (Or.inl k1)]
                have e : movV w (rgtV S w) = (4, rgtV S w) := by
                  unfold movV
                  rw [if_neg mv, wn, if_pos (by decide)]
                rw [e] at a0
                rw [a0]
                refine okc_o (τ := σ) ?_ (spo_e (by show ¬ (4 : Int) = 0; decide))
                have g16 : 16 < fC w := by omega
                by_cases w7 : wid w
                · simp only [e247_148, e247_153, e247_161, e247_204, e247_234, Option.getD_some, Option.bind_some, Option.toList_some, Option.toList_none, List.cons_append, List.nil_append, and_self, and_true, true_and, false_and, and_false, ite_self, not_true_eq_false, not_false_eq_true, reduceIte, Nat.reduceEqDiff, ab_I, ab_L, ab_R, ao_I, ao_L, ao_R, gL_sL, gI_sI, gR_sR, gI_sL, gI_sR, gL_sI, gL_sR, gR_sI, gR_sL, T244, b2_n', b2_0', o16.1, o16.2, or_self, mb', k1, b2_yes w7, oneI, g16]
                · simp only [e247_148, e247_153, e247_161, e247_204, e247_234, Option.getD_some, Option.bind_some, Option.toList_some, Option.toList_none, List.cons_append, List.nil_append, and_self, and_true, true_and, false_and, and_false, ite_self, not_true_eq_false, not_false_eq_true, reduceIte, Nat.reduceEqDiff, ab_I, ab_L, ab_R, ao_I, ao_L, ao_R, gL_sL, gI_sI, gR_sR, gI_sL, gI_sR, gL_sI, gL_sR, gR_sI, gR_sL, T244, b2_n', b2_0', o16.1, o16.2, or_self, mb', k1, b2_no w7]
        · -- two sides
          rw [if_neg c176] at a0
          have eL : alL S w = vk (rgV S (dR w)) := if_neg c176
          have kL0 : ¬ vk (rgV S (dR w)) = 0 := fun z => u1 ⟨c176, z⟩
          rw [eL]
          have s148 : RR (lkB tb247) (B247_94, [some (mR (some 40)), some (mI (fC w)), some (mI (b2 (wid w))), some (mI (b2 (alQ w))), some (mI ((pR S (dR w) : Nat) : Int)), some (mI (vk (rgV S (dR w)))), none], [mI (vk (rgtV S w))], σ) = RR (lkB tb247) (B247_148, [some (mR (some 40)), some (mI (fC w)), some (mI (b2 (wid w))), some (mI (b2 (alQ w))), some (mI ((pR S (dR w) : Nat) : Int)), some (mI (vk (rgV S (dR w)))), some (mI (vk (rgtV S w)))], [], σ) := by
            simp only [e247_94, Option.getD_some, Option.bind_some, Option.toList_some, Option.toList_none, List.cons_append, List.nil_append, and_self, and_true, true_and, false_and, and_false, ite_self, not_true_eq_false, not_false_eq_true, reduceIte, Nat.reduceEqDiff, ab_I, ab_L, ab_R, ao_I, ao_L, ao_R, gL_sL, gI_sI, gR_sR, gI_sL, gI_sR, gL_sI, gL_sR, gR_sI, gR_sL, kL0, kR0, c176]
          rw [s148]
          by_cases mb : isMb (rgV S (dR w)) ∨ isMb (rgtV S w)
          · have wn : ∀ x y : VL, isMb x ∨ isMb y → wntN x y = 14 := fun x y z => if_pos z
            have e : aluV S w t = (14, unsV, t) := by
              rw [a0]
              by_cases c128 : fC w = 128
              · have nr : ¬ rgt w := by
                  have := hw.2
                  rw [if_neg c208, if_pos c128] at this
                  exact this.1
                have er : rgtV S w = numV (cstN (BitVec.ofInt 64 (fI w))) := if_neg nr
                have m : isMb (rgV S (dR w)) := by
                  rcases mb with m | m
                  · exact m
                  · rw [er] at m
                    have m : (1 : Int) = 6 ∨ (1 : Int) = 10 := m
                    exfalso; omega
                rw [if_pos c128, wn _ _ (Or.inl m), if_pos (by decide)]
              · rw [if_neg c128, if_neg (fun z => z.1.2 mb), if_neg (fun z => z.1.2 mb), wn _ _ mb, if_pos (by decide)]
            rw [e]
            refine okc_o (τ := σ) ?_ (spo_e (by show ¬ (14 : Int) = 0; decide))
            by_cases m : isMb (rgV S (dR w))
            · have m' : vk (rgV S (dR w)) = 6 ∨ vk (rgV S (dR w)) = 10 := m
              simp only [e247_148, e247_153, e247_161, Option.getD_some, Option.bind_some, Option.toList_some, Option.toList_none, List.cons_append, List.nil_append, and_self, and_true, true_and, false_and, and_false, ite_self, not_true_eq_false, not_false_eq_true, reduceIte, Nat.reduceEqDiff, ab_I, ab_L, ab_R, ao_I, ao_L, ao_R, gL_sL, gI_sI, gR_sR, gI_sL, gI_sR, gL_sI, gL_sR, gR_sI, gR_sL, T244, b2_n', b2_0', m']
            · have m' : ¬ (vk (rgV S (dR w)) = 6 ∨ vk (rgV S (dR w)) = 10) := m
              have m2 : vk (rgtV S w) = 6 ∨ vk (rgtV S w) = 10 := mb.resolve_left m
              simp only [e247_148, e247_153, e247_161, Option.getD_some, Option.bind_some, Option.toList_some, Option.toList_none, List.cons_append, List.nil_append, and_self, and_true, true_and, false_and, and_false, ite_self, not_true_eq_false, not_false_eq_true, reduceIte, Nat.reduceEqDiff, ab_I, ab_L, ab_R, ao_I, ao_L, ao_R, gL_sL, gI_sI, gR_sR, gI_sL, gI_sR, gL_sI, gL_sR, gR_sI, gR_sL, T244, b2_n', b2_0', m', m2]
          · have m1 : ¬ (vk (rgV S (dR w)) = 6 ∨ vk (rgV S (dR w)) = 10) := fun z => mb (Or.inl z)
            have m2 : ¬ (vk (rgtV S w) = 6 ∨ vk (rgtV S w) = 10) := fun z => mb (Or.inr z)
            by_cases both : vk (rgV S (dR w)) = 1 ∧ vk (rgtV S w) = 1
            · have wn : ∀ x y : VL, ¬ (isMb x ∨ isMb y) → vk x = 1 → vk y = 1 → wntN x y = 0 := fun x y z a b => by
                unfold wntN
                rw [if_neg z, if_neg (fun q => q.elim (fun q => q a) (fun q => q b))]
              have e : aluV S w t = (0, numV (resN w (vn (rgV S (dR w))) (vn (rgtV S w))), t) := by
                rw [a0]
                unfold resN
                rw [if_neg c208]
                by_cases c128 : fC w = 128
                · rw [if_pos c128, if_pos c128, wn _ _ (fun z => mb (Or.inl (z.elim id id))) both.1 both.1, if_neg (by decide)]
                  split <;> rfl
                · rw [if_neg c128, if_neg c128, if_neg c176, if_neg (fun z => by
                    have m : mvs (rgV S (dR w)) := z.2.2.1
                    omega), if_neg (fun z => by
                    have m : mvs (rgtV S w) := z.2.2.2
                    omega), wn _ _ mb both.1 both.2, if_neg (by decide)]
                  split <;> rfl
              have n := num (Or.inr both.1) (Or.inr both.2) e
              rw [both.1, both.2]
              have o16 : ¬ (1 : Int) = 6 ∧ ¬ (1 : Int) = 10 := by decide
              simp only [e247_148, e247_153, Option.getD_some, Option.bind_some, Option.toList_some, Option.toList_none, List.cons_append, List.nil_append, and_self, and_true, true_and, false_and, and_false, ite_self, not_true_eq_false, not_false_eq_true, reduceIte, Nat.reduceEqDiff, ab_I, ab_L, ab_R, ao_I, ao_L, ao_R, gL_sL, gI_sI, gR_sR, gI_sL, gI_sR, gL_sI, gL_sR, gR_sI, gR_sL, T244, b2_n', o16.1, o16.2, or_self, b2_no not_false]
              exact n
            · have wn : wntN (rgV S (dR w)) (rgtV S w) = 4 := by
                unfold wntN
                rw [if_neg mb, if_pos]
                by_cases z : vk (rgV S (dR w)) = 1
                · exact Or.inr (fun y => both ⟨z, y⟩)
                · exact Or.inl z
              have s204 : RR (lkB tb247) (B247_148, [some (mR (some 40)), some (mI (fC w)), some (mI (b2 (wid w))), some (mI (b2 (alQ w))), some (mI ((pR S (dR w) : Nat) : Int)), some (mI (vk (rgV S (dR w)))), some (mI (vk (rgtV S w)))], [], σ) = RR (lkB tb247) (B247_204, [some (mR (some 40)), some (mI (fC w)), some (mI (b2 (wid w))), some (mI (b2 (alQ w))), some (mI ((pR S (dR w) : Nat) : Int)), some (mI (vk (rgV S (dR w)))), some (mI (vk (rgtV S w)))], [], σ) := by
                by_cases z : vk (rgV S (dR w)) = 1
                · have z2 : ¬ vk (rgtV S w) = 1 := fun y => both ⟨z, y⟩
                  simp only [e247_148, e247_153, e247_161, Option.getD_some, Option.bind_some, Option.toList_some, Option.toList_none, List.cons_append, List.nil_append, and_self, and_true, true_and, false_and, and_false, ite_self, not_true_eq_false, not_false_eq_true, reduceIte, Nat.reduceEqDiff, ab_I, ab_L, ab_R, ao_I, ao_L, ao_R, gL_sL, gI_sI, gR_sR, gI_sL, gI_sR, gL_sI, gL_sR, gR_sI, gR_sL, T244, b2_n', b2_0', m1, m2, z, z2, Int.reduceEq, or_self]
                · simp only [e247_148, e247_153, e247_161, Option.getD_some, Option.bind_some, Option.toList_some, Option.toList_none, List.cons_append, List.nil_append, and_self, and_true, true_and, false_and, and_false, ite_self, not_true_eq_false, not_false_eq_true, reduceIte, Nat.reduceEqDiff, ab_I, ab_L, ab_R, ao_I, ao_L, ao_R, gL_sL, gI_sI, gR_sR, gI_sL, gI_sR, gL_sI, gL_sR, gR_sI, gR_sL, T244, b2_n', b2_0', m1, m2, z]
              rw [s204]
              have e4 : aluV S w t = (4, unsV, t) → (¬ wid w ∨ ¬ (fC w = 0 ∨ fC w = 16)) → okc (RR (lkB tb247) (B247_204, [some (mR (some 40)), some (mI (fC w)), some (mI (b2 (wid w))), some (mI (b2 (alQ w))), some (mI ((pR S (dR w) : Nat) : Int)), some (mI (vk (rgV S (dR w)))), some (mI (vk (rgtV S w)))], [], σ)) (some (mI (aluV S w t).1)) (fun τ => spo σ τ k j (aluV S w t).1 (wV S (dR w) (aluV S w t).2.1) (gI σ 40 4) (aluV S w t).2.2) := fun e h => by
                rw [e]
                refine okc_o (τ := σ) ?_ (spo_e (by show ¬ (4 : Int) = 0; decide))
                by_cases w7 : wid w
                · have g16 : 16 < fC w := by
                    have := h.resolve_left (not_not_intro w7)
                    have f1 := (fld_rng w).1
                    have eC : fC w = fOp w / 16 * 16 := rfl
                    omega
                  simp only [e247_204, e247_234, Option.getD_some, Option.bind_some, Option.toList_some, Option.toList_none, List.cons_append, List.nil_append, and_self, and_true, true_and, false_and, and_false, ite_self, not_true_eq_false, not_false_eq_true, reduceIte, Nat.reduceEqDiff, ab_I, ab_L, ab_R, ao_I, ao_L, ao_R, gL_sL, gI_sI, gR_sR, gI_sL, gI_sR, gL_sI, gL_sR, gR_sI, gR_sL, b2_yes w7, oneI, g16]
                · simp only [e247_204, e247_234, Option.getD_some, Option.bind_some, Option.toList_some, Option.toList_none, List.cons_append, List.nil_append, and_self, and_true, true_and, false_and, and_false, ite_self, not_true_eq_false, not_false_eq_true, reduceIte, Nat.reduceEqDiff, ab_I, ab_L, ab_R, ao_I, ao_L, ao_R, gL_sL, gI_sI, gR_sR, gI_sL, gI_sR, gL_sI, gL_sR, gR_sI, gR_sL, b2_no w7]
              by_cases c128 : fC w = 128
              · have nr : ¬ rgt w := by
                  have := hw.2
                  rw [if_neg c208, if_pos c128] at this
                  exact this.1
                have er : rgtV S w = numV (cstN (BitVec.ofInt 64 (fI w))) := if_neg nr
                have k1 : ¬ vk (rgV S (dR w)) = 1 := fun z => both ⟨z, by rw [er]; rfl⟩
                have wn2 : wntN (rgV S (dR w)) (rgV S (dR w)) = 4 := by
                  unfold wntN
                  rw [if_neg (fun z => mb (Or.inl (z.elim id id))), if_pos (Or.inl k1)]
                rw [if_pos c128, wn2, if_pos (by decide)] at a0
                exact e4 a0 (Or.inr (by omega))
              · rw [if_neg c128] at a0
                by_cases mo : wid w ∧ (fC w = 0 ∨ fC w = 16)
                · have f1 := (fld_rng w).1
                  have eC : fC w = fOp w / 16 * 16 := rfl
                  have n16 : ¬ 16 < fC w := by omega
                  have bc : ∀ q : Prop, (if ¬ fC w = 0 then RR (lkB tb247) (B247_224, [some (mR (some 40)), some (mI (fC w)), some (mI (b2 (wid w))), some (mI (b2 (alQ w))), some (mI ((pR S (dR w) : Nat) : Int)), some (mI (vk (rgV S (dR w)))), some (mI (vk (rgtV S w)))], [mI 0, mR (some 40)], σ) else RR (lkB tb247) (B247_224, [some (mR (some 40)), some (mI (fC w)), some (mI (b2 (wid w))), some (mI (b2 (alQ w))), some (mI ((pR S (dR w) : Nat) : Int)), some (mI (vk (rgV S (dR w)))), some (mI (vk (rgtV S w)))], [mI 1, mR (some 40)], σ)) = RR (lkB tb247) (B247_224, [some (mR (some 40)), some (mI (fC w)), some (mI (b2 (wid w))), some (mI (b2 (alQ w))), some (mI ((pR S (dR w) : Nat) : Int)), some (mI (vk (rgV S (dR w)))), some (mI (vk (rgtV S w)))], [mI (b2 (fC w = 0)), mR (some 40)], σ) := fun _ => by
                    by_cases c0 : fC w = 0
                    · rw [if_neg (not_not_intro c0), b2_yes c0]
                    · rw [if_pos c0, b2_no c0]
                  have s224 : RR (lkB tb247) (B247_204, [some (mR (some 40)), some (mI (fC w)), some (mI (b2 (wid w))), some (mI (b2 (alQ w))), some (mI ((pR S (dR w) : Nat) : Int)), some (mI (vk (rgV S (dR w)))), some (mI (vk (rgtV S w)))], [], σ) = RR (lkB tb247) (B247_224, [some (mR (some 40)), some (mI (fC w)), some (mI (b2 (wid w))), some (mI (b2 (alQ w))), some (mI ((pR S (dR w) : Nat) : Int)), some (mI (vk (rgV S (dR w)))), some (mI (vk (rgtV S w)))], [mI (b2 (fC w = 0)), mR (some 40)], σ) := by
                    rw [e247_204, if_neg (by rw [b2_yes mo.1]; decide), if_neg n16]
                    exact bc True
                  rw [s224]
                  by_cases sh : okSh S w
                  · have e : aluV S w t = shfR S w t := by
                      rw [a0]
                      unfold shfR
                      rcases sh with q | q
                      · have n1 : ¬ vk (rgV S (dR w)) = 1 := by have m : mvs (rgV S (dR w)) := q.1; omega
                        rw [if_pos ⟨⟨mo.1, mb⟩, mo.2, q⟩, if_neg n1]
                      · have nm : ¬ mvs (rgV S (dR w)) := fun (m : vk (rgV S (dR w)) = 3 ∨ vk (rgV S (dR w)) = 5 ∨ vk (rgV S (dR w)) = 7 ∨ vk (rgV S (dR w)) = 9) => by have := q.2.1; omega
                        rw [if_neg (fun z => nm z.2.2.1), if_pos ⟨⟨mo.1, mb⟩, q⟩, if_pos q.2.1]
                    obtain ⟨τ, t50, q50⟩ := T250 H hS P ht hd hs mo.2 sh
                    rw [e]
                    refine okc_o (τ := τ) ?_ q50
                    simp only [e247_224, e247_231, Option.getD_some, Option.bind_some, Option.toList_some, Option.toList_none, List.cons_append, List.nil_append, and_self, and_true, true_and, false_and, and_false, ite_self, not_true_eq_false, not_false_eq_true, reduceIte, Nat.reduceEqDiff, ab_I, ab_L, ab_R, ao_I, ao_L, ao_R, gL_sL, gI_sI, gR_sR, gI_sL, gI_sR, gL_sI, gL_sR, gR_sI, gR_sL, t50]
                  · have e : aluV S w t = (4, unsV, t) := by
                      rw [a0, if_neg (fun z => sh (Or.inl z.2.2)), if_neg (fun z => sh (Or.inr z.2)), wn, if_pos (by decide)]
                    have t50 := T250n (σ := σ) mo.2 sh both
                    rw [e]
                    refine okc_o (τ := σ) ?_ (spo_e (by show ¬ (4 : Int) = 0; decide))
                    simp only [e247_224, e247_231, Option.getD_some, Option.bind_some, Option.toList_some, Option.toList_none, List.cons_append, List.nil_append, and_self, and_true, true_and, false_and, and_false, ite_self, not_true_eq_false, not_false_eq_true, reduceIte, Nat.reduceEqDiff, ab_I, ab_L, ab_R, ao_I, ao_L, ao_R, gL_sL, gI_sI, gR_sR, gI_sL, gI_sR, gL_sI, gL_sR, gR_sI, gR_sL, t50]
                · rw [if_neg (fun z => mo ⟨z.1.1, z.2.1⟩), if_neg (fun z => mo ⟨z.1.1, Or.inl z.2.1⟩), wn, if_pos (by decide)] at a0
                  refine e4 a0 ?_
                  by_cases w7 : wid w
                  · exact Or.inr (fun z => mo ⟨w7, z⟩)
                  · exact Or.inl w7
end CALG
