/-! ===== the reference's judge: pairs, jumps from their beginning ===== -/
section STP
variable {σ τ ρ : MS} {S : ST} {E : EV} {t g : Int} {N l m i : Nat} {K : Nat → KT} {w w2 : B64}
theorem T496 (H : HJ σ S E t N K l m) (hs : okSl σ) (ha : gI σ 80 87 = (i : Int)) (h8 : gI σ 80 88 = (i : Int) + 2) (hw : fL w = 0) (hp : okPr w (wdA σ (i + 1))) (hi : i + 1 < 200) : okc (MM 496 [mR (some 80), mL w] σ) none (fun τ => jwo σ τ N K l (stpJ E S i w (wdA σ (i + 1)) t)) := by
  have H' := H
  obtain ⟨⟨h1, h2, h3, h4⟩, ⟨h5, h6, h7⟩, -, -, -, -⟩ := H'
  have hF := h2.1
  obtain ⟨⟨p1, p2, p3, p4⟩, p5⟩ := hp
  have f := fld_rng w
  have f1 : 0 ≤ fD w := f.2.1.1
  have d9 : dR w ≤ 9 := by unfold dR; omega
  have n1 := at_n h1 hF d9
  rw [show ((dR w : Nat) : Int) = fD w by unfold dR; omega] at n1
  have bD := at_b hF d9
  have e85 : sI σ 80 85 t = σ := by rw [← h6]; exact sI_eta _ _ _
  have e1 : w32 ((i : Int) + 1) = ((i + 1 : Nat) : Int) := by
    rw [w32_i (by omega) (by omega)]
    omega
  have t4 := T474 hs hi
  have eC : iL (-4294967296) = ~~~ cF := by decide
  by_cases s0 : fS w = 0
  · have un : stpJ E S i w (wdA σ (i + 1)) t = (0, some ((i : Int) + 2, wV S (dR w) (numV (cstN ((BitVec.ofInt 64 (fI w) &&& cF) ||| (wdA σ (i + 1) &&& ~~~ cF))))), none, t) := by
      unfold stpJ
      rw [if_pos hw, if_pos s0]
    rw [un, ← h8]
    simp only [M496, e496_0, e496_5, e496_8, e496_13, e496_19, e496_41, e496_49, e496_80, Option.getD_some, Option.bind_some, Option.toList_some, Option.toList_none, List.cons_append, List.nil_append, and_self, and_true, true_and, false_and, and_false, ite_self, not_true_eq_false, not_false_eq_true, reduceIte, Nat.reduceEqDiff, ab_I, ab_L, ab_R, ao_I, ao_L, ao_R, gL_sL, gI_sI, gR_sR, gI_sL, gI_sR, gL_sI, gL_sR, gR_sI, gR_sL, T333, T334, T336, n1, eq_true s0, ha, e1, t4, T433 bD.1 bD.2, iL_F, eC, Int.toNat_natCast]
    refine okc_s (jwo_1 (jpo_w h5 h1 hF.2 (k := 26 * (sF S - 1) + dR w) (by omega) rfl ?_))
    rw [e85]
    exact sqc_r _
  · obtain ⟨q1, q2, q3, q4⟩ := p5.resolve_left s0
    have hE := h4 (fI w).toNat (by omega)
    have a95 : 0 ≤ fI w ∧ fI w < 8 := ⟨q2, by omega⟩
    by_cases m : gI σ 95 (fI w).toNat = 0
    · have neg := hE.2.2.1 m
      have un : stpJ E S i w (wdA σ (i + 1)) t = (15, none, none, t) := by
        unfold stpJ
        rw [if_pos hw, if_neg s0, if_pos neg]
      rw [un]
      simp only [M496, e496_0, e496_5, e496_8, e496_13, e496_19, e496_68, e496_80, Option.getD_some, Option.bind_some, Option.toList_some, Option.toList_none, List.cons_append, List.nil_append, and_self, and_true, true_and, false_and, and_false, ite_self, not_true_eq_false, not_false_eq_true, reduceIte, Nat.reduceEqDiff, ab_I, ab_L, ab_R, ao_I, ao_L, ao_R, gL_sL, gI_sI, gR_sR, gI_sL, gI_sR, gL_sI, gL_sR, gR_sI, gR_sL, T333, T334, T336, n1, s0, g_95, a95.1, a95.2, m, T473]
      exact okc_s (jwo_f (f := 15) (by decide) rfl ⟨by rw [fl_g, h5, fst0], jq_f⟩)
    · have pos := (hE.2.2.2 m).2
      have un : stpJ E S i w (wdA σ (i + 1)) t = (0, some ((i : Int) + 2, wV S (dR w) (mkV 4 (fI w) 0)), none, t) := by
        unfold stpJ
        rw [if_pos hw, if_neg s0, if_neg (by omega)]
      rw [un, ← h8]
      simp only [M496, e496_0, e496_5, e496_8, e496_13, e496_19, e496_80, Option.getD_some, Option.bind_some, Option.toList_some, Option.toList_none, List.cons_append, List.nil_append, and_self, and_true, true_and, false_and, and_false, ite_self, not_true_eq_false, not_false_eq_true, reduceIte, Nat.reduceEqDiff, ab_I, ab_L, ab_R, ao_I, ao_L, ao_R, gL_sL, gI_sI, gR_sR, gI_sL, gI_sR, gL_sI, gL_sR, gR_sI, gR_sL, T333, T334, T336, n1, s0, g_95, a95.1, a95.2, m, T431 bD (show (0 : Int) ≤ 4 ∧ (4 : Int) ≤ 10 by decide), Int.toNat_natCast]
      refine okc_s (jwo_1 (jpo_w h5 h1 hF.2 (k := 26 * (sF S - 1) + dR w) (by omega) rfl ?_))
      rw [e85]
      exact sqc_r _
/-- a comparison's sides are laid out -/
theorem L515a (H : HJ σ S E t N K l m) (ha : gI σ 80 87 = (i : Int)) (t77 : MM 477 [mI (i : Int), mL w] σ = some (some (mI g), σ)) (hc : isCmpO (fOp w)) (hd : fD w ≤ 10) (hs : rgt w → fS w ≤ 10) : ∃ (ρ : MS) (px y : Nat), cH S w σ ρ y ∧ ∀ P : MS → Prop, okc (RR (lkB tb515) (B515_193, [some (mR (some 80)), some (mL w), none, some (mI (fOp w)), some (mI g), some (mI (b2 (widJ w))), some (mI (b2 (rgt w))), some (mI (fC w)), some (mI (px : Int)), some (mI (y : Int)), none, none], [], flt ρ (fst (wntS (rgV S (dR w))) (wntS (sidJ S w))))) none P → okc (MM 515 [mR (some 80), mL w, mI (fOp w)] σ) none P := by
  have H' := H
  obtain ⟨⟨h1, h2, h3, h4⟩, ⟨h5, h6, h7⟩, -, -, -, -⟩ := H'
  have hF := h2.1
  have f := fld_rng w
  have f1 : 0 ≤ fD w := f.2.1.1
  have f2 : 0 ≤ fS w := f.2.2.1.1
  have d10 : dR w ≤ 10 := by unfold dR; omega
  have o5 : ¬ fOp w = 5 := by unfold isCmpO at hc; omega
  have o6 : ¬ fOp w = 6 := by unfold isCmpO at hc; omega
  have o133 : ¬ fOp w = 133 := by unfold isCmpO at hc; omega
  have o149 : ¬ fOp w = 149 := by unfold isCmpO at hc; omega
  have t1 := T492 (σ := σ) (r := fD w) ⟨f1, hd⟩ (by rw [h1.1]; omega)
  have ip := plc_b h1.1 hF (r := fD w) ⟨f1, hd⟩
  have vx := at_v h1 hF (r := fD w) ⟨f1, hd⟩
  generalize plc (gI σ 123 0) (fD w) = px at t1 ip vx
  generalize hσ1 : mk10 σ (fD w) = σ1 at t1 vx
  have vx : aV σ1 px = (rgV S (dR w)) := vx
  have r1 : sqc σ1 σ := by rw [← hσ1]; exact mk_sq
  have okX := okV_r h2 d10
  have t94 := T494 (σ := σ1) ip
  rw [Int.toNat_natCast, vx] at t94
  have bX : inB 32656 := by decide
  have t30 := T430 (σ := flt σ1 (wntS (rgV S (dR w)))) ip bX (by rw [Int.toNat_natCast, aV_flt, vx]; have := okX.1; omega)
  rw [Int.toNat_natCast, aV_flt, vx, wrV_flt] at t30
  generalize hρ1 : wrV σ1 (32656 : Int).toNat (rgV S (dR w)) = ρ1 at t30
  have r2 : sqc ρ1 σ := by rw [← hρ1]; exact sqc_t (sqc_w (by decide)) r1
  have v2 : aV ρ1 32656 = (rgV S (dR w)) := by rw [← hρ1]; exact aV_same
  have s134 : MM 515 [mR (some 80), mL w, mI (fOp w)] σ = RR (lkB tb515) (B515_134, [some (mR (some 80)), some (mL w), none, some (mI (fOp w)), some (mI g), some (mI (b2 (widJ w))), some (mI (b2 (rgt w))), some (mI (fC w)), some (mI (px : Int)), none, none, none], [], flt ρ1 (wntS (rgV S (dR w)))) := by
    by_cases a : widJ w
    · have a' : fL w = 5 := a
      by_cases b : rgt w
      · rw [b2_yes (p := widJ w) a, b2_yes (p := rgt w) b]
        simp only [M515, e515_0, e515_8, e515_86, e515_100, e515_114, e515_117, e515_125, Option.getD_some, Option.bind_some, Option.toList_some, Option.toList_none, List.cons_append, List.nil_append, and_self, and_true, true_and, false_and, and_false, ite_self, not_true_eq_false, not_false_eq_true, reduceIte, Nat.reduceEqDiff, ab_I, ab_L, ab_R, ao_I, ao_L, ao_R, gL_sL, gI_sI, gR_sR, gI_sL, gI_sR, gL_sI, gL_sR, gR_sI, gR_sL, ha, t77, o5, o6, o133, o149, m7, m8r, mC, a', eq_true b, T333, t1, t94, t30]
      · rw [b2_yes (p := widJ w) a, b2_no (p := rgt w) b]
        simp only [M515, e515_0, e515_8, e515_86, e515_100, e515_114, e515_117, e515_125, Option.getD_some, Option.bind_some, Option.toList_some, Option.toList_none, List.cons_append, List.nil_append, and_self, and_true, true_and, false_and, and_false, ite_self, not_true_eq_false, not_false_eq_true, reduceIte, Nat.reduceEqDiff, ab_I, ab_L, ab_R, ao_I, ao_L, ao_R, gL_sL, gI_sI, gR_sR, gI_sL, gI_sR, gL_sI, gL_sR, gR_sI, gR_sL, ha, t77, o5, o6, o133, o149, m7, m8r, mC, a', b, T333, t1, t94, t30]
    · have a' : ¬ fL w = 5 := a
      by_cases b : rgt w
      · rw [b2_no (p := widJ w) a, b2_yes (p := rgt w) b]
        simp only [M515, e515_0, e515_8, e515_86, e515_100, e515_114, e515_117, e515_125, Option.getD_some, Option.bind_some, Option.toList_some, Option.toList_none, List.cons_append, List.nil_append, and_self, and_true, true_and, false_and, and_false, ite_self, not_true_eq_false, not_false_eq_true, reduceIte, Nat.reduceEqDiff, ab_I, ab_L, ab_R, ao_I, ao_L, ao_R, gL_sL, gI_sI, gR_sR, gI_sL, gI_sR, gL_sI, gL_sR, gR_sI, gR_sL, ha, t77, o5, o6, o133, o149, m7, m8r, mC, a', eq_true b, T333, t1, t94, t30]
      · rw [b2_no (p := widJ w) a, b2_no (p := rgt w) b]
        simp only [M515, e515_0, e515_8, e515_86, e515_100, e515_114, e515_117, e515_125, Option.getD_some, Option.bind_some, Option.toList_some, Option.toList_none, List.cons_append, List.nil_append, and_self, and_true, true_and, false_and, and_false, ite_self, not_true_eq_false, not_false_eq_true, reduceIte, Nat.reduceEqDiff, ab_I, ab_L, ab_R, ao_I, ao_L, ao_R, gL_sL, gI_sI, gR_sR, gI_sL, gI_sR, gL_sI, gL_sR, gR_sI, gR_sL, ha, t77, o5, o6, o133, o149, m7, m8r, mC, a', b, T333, t1, t94, t30]
  by_cases b : rgt w
  · have J2 : J0 (flt ρ1 (wntS (rgV S (dR w)))) S := JSt_flt (JSt_sq r2 (by omega) hF.2 h1)
    have t2 := T492 (σ := flt ρ1 (wntS (rgV S (dR w)))) (r := fS w) ⟨f2, hs b⟩ (by rw [J2.1]; omega)
    have ip2 := plc_b J2.1 hF (r := fS w) ⟨f2, hs b⟩
    have vy := at_v J2 hF (r := fS w) ⟨f2, hs b⟩
    have py : (plc (gI (flt ρ1 (wntS (rgV S (dR w)))) 123 0) (fS w) < 104 ∨ plc (gI (flt ρ1 (wntS (rgV S (dR w)))) 123 0) (fS w) = 32657 ∨ plc (gI (flt ρ1 (wntS (rgV S (dR w)))) 123 0) (fS w) = 32663) ∧ (¬ fS w = 10 → plc (gI (flt ρ1 (wntS (rgV S (dR w)))) 123 0) (fS w) = 26 * (sF S - 1) + sRr w) := by
      have := hs b
      by_cases c : fS w = 10
      · rw [c, plc_10]
        exact ⟨Or.inr (Or.inr rfl), fun q => absurd rfl q⟩
      · rw [plc_9 J2.1 hF.1 f2 (by omega)]
        exact ⟨Or.inl (by omega), fun _ => rfl⟩
    generalize plc (gI (flt ρ1 (wntS (rgV S (dR w)))) 123 0) (fS w) = y at t2 ip2 vy py
    rw [mk_flt] at t2 vy
    generalize hρ2 : mk10 ρ1 (fS w) = ρ2 at t2 vy
    rw [aV_flt] at vy
    have e : (sidJ S w) = rgV S (sRr w) := if_pos b
    have vy : aV ρ2 y = (sidJ S w) := vy.trans e.symm
    have t94' := T494 (σ := flt ρ2 (wntS (rgV S (dR w)))) ip2
    rw [Int.toNat_natCast, aV_flt, vy, flt_flt] at t94'
    refine ⟨ρ2, px, y, ⟨?_, ?_, vy, py.1, fun q => absurd b q, fun _ => py.2⟩, fun P h => ?_⟩
    · rw [← hρ2]
      exact sqc_t mk_sq r2
    · rw [← hρ2, mk_V, if_neg (fun q => absurd q.2 (by decide))]
      exact v2
    · rw [s134]
      rw [b2_yes (p := rgt w) b] at h ⊢
      simp only [e515_134, e515_149, e515_152, e515_160, Option.getD_some, Option.bind_some, Option.toList_some, Option.toList_none, List.cons_append, List.nil_append, and_self, and_true, true_and, false_and, and_false, ite_self, not_true_eq_false, not_false_eq_true, reduceIte, Nat.reduceEqDiff, ab_I, ab_L, ab_R, ao_I, ao_L, ao_R, gL_sL, gI_sI, gR_sR, gI_sL, gI_sR, gL_sI, gL_sR, gR_sI, gR_sL, oneI, T334, t2, t94']
      exact h
  · have bZ : inB 32657 := by decide
    have t33 := T433 (σ := flt ρ1 (wntS (rgV S (dR w)))) (x1 := 32657) (x2 := immJ w) bZ.1 bZ.2
    rw [wrV_flt] at t33
    generalize hρ2 : wrV ρ1 (32657 : Int).toNat (numV (cstN (immJ w))) = ρ2 at t33
    have e : (sidJ S w) = numV (cstN (immJ w)) := if_neg b
    have vy : aV ρ2 32657 = (sidJ S w) := by
      rw [← hρ2, e]
      exact aV_same
    have w0 : wntS (sidJ S w) = 0 := by
      rw [e]
      exact if_neg (show ¬ (1 : Int) = 0 by decide)
    refine ⟨ρ2, px, 32657, ⟨?_, ?_, vy, Or.inr (Or.inl rfl), fun _ => rfl, fun q => absurd q b⟩, fun P h => ?_⟩
    · rw [← hρ2]
      exact sqc_t (sqc_w (by decide)) r2
    · rw [← hρ2, aV_wrV, if_neg (by decide)]
      exact v2
    · rw [w0, fst_r0] at h
      rw [s134]
      rw [b2_no (p := rgt w) b] at h ⊢
      by_cases a : widJ w
      · have ei : immJ w = iL (fI w) := if_pos a
        rw [ei] at t33
        rw [b2_yes (p := widJ w) a] at h ⊢
        simp only [e515_134, e515_167, e515_190, Option.getD_some, Option.bind_some, Option.toList_some, Option.toList_none, List.cons_append, List.nil_append, and_self, and_true, true_and, false_and, and_false, ite_self, not_true_eq_false, not_false_eq_true, reduceIte, Nat.reduceEqDiff, ab_I, ab_L, ab_R, ao_I, ao_L, ao_R, gL_sL, gI_sI, gR_sR, gI_sL, gI_sR, gL_sI, gL_sR, gR_sI, gR_sL, oneI, T336, t33]
        exact okc_q (by repeat (first | exact lq_nil | refine lq_cons (Or.inr rfl) ?_ | refine lq_cons (Or.inl rfl) ?_)) h
      · have ei : immJ w = iL (fI w) &&& cF := if_neg a
        rw [ei] at t33
        rw [b2_no (p := widJ w) a] at h ⊢
        simp only [e515_134, e515_167, e515_190, Option.getD_some, Option.bind_some, Option.toList_some, Option.toList_none, List.cons_append, List.nil_append, and_self, and_true, true_and, false_and, and_false, ite_self, not_true_eq_false, not_false_eq_true, reduceIte, Nat.reduceEqDiff, ab_I, ab_L, ab_R, ao_I, ao_L, ao_R, gL_sL, gI_sI, gR_sR, gI_sL, gI_sR, gL_sI, gL_sR, gR_sI, gR_sL, T336, iL_F, t33]
        exact okc_q (by repeat (first | exact lq_nil | refine lq_cons (Or.inr rfl) ?_ | refine lq_cons (Or.inl rfl) ?_)) h
theorem T523f (hJ : J0 σ S) (hF : sF S = 4) : MM 523 [mR (some 80), mI g] σ = some (none, flt σ 13) := by
  have g123 : gI σ 123 0 = 4 := by rw [hJ.1, hF]; rfl
  simp only [M523, e523_0, e523_18, Option.getD_some, Option.bind_some, Option.toList_some, Option.toList_none, List.cons_append, List.nil_append, and_self, and_true, true_and, false_and, and_false, ite_self, not_true_eq_false, not_false_eq_true, reduceIte, Nat.reduceEqDiff, ab_I, ab_L, ab_R, ao_I, ao_L, ao_R, gL_sL, gI_sI, gR_sR, gI_sL, gI_sR, gL_sI, gL_sR, gR_sI, gR_sL, g_123, Int.reduceLT, Int.reduceLE, show (0 : Int).toNat = 0 from rfl, g123, T473]
/-- the most frames -/
def mxS (σ : MS) (S : ST) (w : B64) : MS := if (fOp w = 133 ∧ fS w = 1) ∧ ¬ sF S = 4 then sI σ 138 5 (max (gI σ 138 5) ((sF S : Int) + 1)) else σ
theorem T515 (H : HJ σ S E t N K l m) (hE : okE E) (ha : gI σ 80 87 = (i : Int)) (h8 : gI σ 80 88 = (i : Int) + 1) (hi : i < 200) (hL : fL w = 5 ∨ fL w = 6) (hw : okJmp w) (hg : ¬ fOp w = 149 → (fOp w = 133 → fS w = 1) → 0 ≤ goal i w ∧ goal i w < 1000) : okc (MM 515 [mR (some 80), mL w, mI (fOp w)] σ) none (fun τ => jwo (mxS σ S w) τ N K l (stpJ E S i w w2 t)) := by
  have H' := H
  obtain ⟨⟨h1, h2, h3, h4⟩, ⟨h5, h6, h7⟩, -, -, -, -⟩ := H'
  have hF := h2.1
  have f := fld_rng w
  have t77 := T477 (σ := σ) (i := (i : Int)) (w := w) (by omega)
  have un0 : stpJ E S i w w2 t = (if fOp w = 5 ∨ fOp w = 6 then (0, some (goal i w, S), none, t)
     else if fOp w = 149 then exiJ S t
     else if fOp w = 133 then (if fS w = 1 then entJ S (goal i w) (gI σ 80 88) t else hlpJ E S (fI w) (gI σ 80 88) t)
     else cmpJ S w (goal i w) (gI σ 80 88) t) := by
    rw [h8]
    unfold stpJ
    rw [if_neg (by omega), if_neg (by omega), if_pos hL]
  have fin : ∀ n : Int, jpo σ (sI σ 80 88 n) 0 S n (gI σ 80 89) t := fun n => by
    refine ⟨jq_I (by omega), ?_, fun _ => ⟨JSt_sI (by omega) h1, ?_, ?_, ?_⟩⟩
    · rw [gI_sI, if_neg (by omega), h5]
    · rw [gI_sI, if_pos ⟨rfl, rfl⟩]
    · rw [gI_sI, if_neg (by omega)]
    · rw [gI_sI, if_neg (by omega), h6]
  by_cases c149 : fOp w = 149
  · have o5 : ¬ fOp w = 5 := by omega
    have o6 : ¬ fOp w = 6 := by omega
    have em : mxS σ S w = σ := if_neg (by omega)
    rw [if_neg (by omega), if_pos c149] at un0
    rw [em, un0]
    simp only [M515, e515_0, e515_8, Option.getD_some, Option.bind_some, Option.toList_some, Option.toList_none, List.cons_append, List.nil_append, and_self, and_true, true_and, false_and, and_false, ite_self, not_true_eq_false, not_false_eq_true, reduceIte, Nat.reduceEqDiff, ab_I, ab_L, ab_R, ao_I, ao_L, ao_R, gL_sL, gI_sI, gR_sR, gI_sL, gI_sR, gL_sI, gL_sR, gR_sI, gR_sL, ha, t77, o5, o6, eq_true c149]
    refine okc_b (T524 H) fun τ q => ?_
    simp only [Option.toList_none, List.nil_append, e515_39]
    exact okc_s q
  · by_cases c5 : fOp w = 5 ∨ fOp w = 6
    · have gg := hg c149 (by omega)
      have em : mxS σ S w = σ := if_neg (by omega)
      rw [w32_i (by omega) (by omega)] at t77
      rw [if_pos c5] at un0
      rw [em, un0]
      by_cases d5 : fOp w = 5
      · simp only [M515, e515_0, e515_8, Option.getD_some, Option.bind_some, Option.toList_some, Option.toList_none, List.cons_append, List.nil_append, and_self, and_true, true_and, false_and, and_false, ite_self, not_true_eq_false, not_false_eq_true, reduceIte, Nat.reduceEqDiff, ab_I, ab_L, ab_R, ao_I, ao_L, ao_R, gL_sL, gI_sI, gR_sR, gI_sL, gI_sR, gL_sI, gL_sR, gR_sI, gR_sL, ha, t77, eq_true d5]
        exact okc_s (jwo_1 (fin _))
      · have d6 : fOp w = 6 := by omega
        simp only [M515, e515_0, e515_8, Option.getD_some, Option.bind_some, Option.toList_some, Option.toList_none, List.cons_append, List.nil_append, and_self, and_true, true_and, false_and, and_false, ite_self, not_true_eq_false, not_false_eq_true, reduceIte, Nat.reduceEqDiff, ab_I, ab_L, ab_R, ao_I, ao_L, ao_R, gL_sL, gI_sI, gR_sR, gI_sL, gI_sR, gL_sI, gL_sR, gR_sI, gR_sL, ha, t77, d5, eq_true d6]
        exact okc_s (jwo_1 (fin _))
    · have o5 : ¬ fOp w = 5 := by omega
      have o6 : ¬ fOp w = 6 := by omega
      rw [if_neg c5, if_neg c149] at un0
      by_cases c133 : fOp w = 133
      · rw [if_pos c133] at un0
        by_cases s1 : fS w = 1
        · have gg := hg c149 (fun _ => s1)
          rw [w32_i (by omega) (by omega)] at t77
          rw [if_pos s1] at un0
          by_cases f4 : sF S = 4
          · have em : mxS σ S w = σ := if_neg (fun q => q.2 f4)
            have ue : entJ S (goal i w) (gI σ 80 88) t = (13, none, none, t) := by
              unfold entJ
              rw [if_pos f4]
            rw [em, un0, ue]
            simp only [M515, e515_0, e515_8, e515_51, e515_61, e515_72, Option.getD_some, Option.bind_some, Option.toList_some, Option.toList_none, List.cons_append, List.nil_append, and_self, and_true, true_and, false_and, and_false, ite_self, not_true_eq_false, not_false_eq_true, reduceIte, Nat.reduceEqDiff, ab_I, ab_L, ab_R, ao_I, ao_L, ao_R, gL_sL, gI_sI, gR_sR, gI_sL, gI_sR, gL_sI, gL_sR, gR_sI, gR_sL, ha, t77, o5, o6, c149, eq_true c133, T334, eq_true s1, T523f h1 f4]
            exact okc_s (jwo_f (f := 13) (by decide) rfl ⟨by rw [fl_g, h5, fst0], jq_f⟩)
          · have em : mxS σ S w = sI σ 138 5 (max (gI σ 138 5) ((sF S : Int) + 1)) := if_pos ⟨⟨c133, s1⟩, f4⟩
            have ue : entJ S (goal i w) (gI σ 80 88) t = (0, some (goal i w, (sF S + 1, (fun k => if 26 * sF S + 1 ≤ k ∧ k ≤ 26 * sF S + 5 then sV S (k - 26) else clrF S (sF S) k), (fun f => if f = sF S then (gI σ 80 88) else sB S f), sH S)), none, t) := by
              unfold entJ
              rw [if_neg f4]
            rw [em, un0, ue]
            simp only [M515, e515_0, e515_8, e515_51, e515_61, e515_72, Option.getD_some, Option.bind_some, Option.toList_some, Option.toList_none, List.cons_append, List.nil_append, and_self, and_true, true_and, false_and, and_false, ite_self, not_true_eq_false, not_false_eq_true, reduceIte, Nat.reduceEqDiff, ab_I, ab_L, ab_R, ao_I, ao_L, ao_R, gL_sL, gI_sI, gR_sR, gI_sL, gI_sR, gL_sI, gL_sR, gR_sI, gR_sL, ha, t77, o5, o6, c149, eq_true c133, T334, eq_true s1, T523 h1 h2 f4]
            refine okc_s (jwo_1 ?_)
            rw [gI_sI, if_neg (by omega)]
            exact ent_p h1 h2 f4 h5 h6
        · have em : mxS σ S w = σ := if_neg (fun q => s1 q.1.2)
          rw [if_neg s1] at un0
          rw [em, un0]
          simp only [M515, e515_0, e515_8, e515_51, e515_69, Option.getD_some, Option.bind_some, Option.toList_some, Option.toList_none, List.cons_append, List.nil_append, and_self, and_true, true_and, false_and, and_false, ite_self, not_true_eq_false, not_false_eq_true, reduceIte, Nat.reduceEqDiff, ab_I, ab_L, ab_R, ao_I, ao_L, ao_R, gL_sL, gI_sI, gR_sR, gI_sL, gI_sR, gL_sI, gL_sR, gR_sI, gR_sL, ha, t77, o5, o6, c149, eq_true c133, T334, s1, T336]
          refine okc_b (T531 H hE) fun τ q => ?_
          simp only [Option.toList_none, List.nil_append, e515_72]
          exact okc_s q
      · have em : mxS σ S w = σ := if_neg (fun q => c133 q.1.1)
        have gg := hg c149 (fun q => absurd q c133)
        rw [w32_i (by omega) (by omega)] at t77
        rw [if_neg c133] at un0
        rw [em, un0]
        unfold okJmp at hw
        rw [if_neg o5, if_neg o6, if_neg c133, if_neg c149] at hw
        obtain ⟨⟨hc, hd⟩, hs⟩ := hw
        have hs' : rgt w → fS w ≤ 10 := fun r => by
          rw [if_pos r] at hs
          exact hs.1
        obtain ⟨ρ, px, y, C, k⟩ := L515a H ha t77 hc hd hs'
        refine k _ ?_
        by_cases k1 : vk (rgV S (dR w)) = 0 ∨ vk (sidJ S w) = 0
        · have uc : cmpJ S w (goal i w) (gI σ 80 88) t = (3, none, none, t) := by
            unfold cmpJ
            rw [if_pos k1]
          have e3 : fst (wntS (rgV S (dR w))) (wntS (sidJ S w)) = 3 := by
            unfold fst wntS
            rcases k1 with k1 | k1
            · simp [k1]
            · by_cases k0 : vk (rgV S (dR w)) = 0 <;> simp [k0, k1]
          have g3 : ¬ gI (flt ρ 3) 80 90 = 0 := by
            rw [fl_g, sqc_I C.1 (by omega) (by omega), h5, fst0]
            decide
          rw [uc, e3]
          simp only [e515_193, Option.getD_some, Option.bind_some, Option.toList_some, Option.toList_none, List.cons_append, List.nil_append, and_self, and_true, true_and, false_and, and_false, ite_self, not_true_eq_false, not_false_eq_true, reduceIte, Nat.reduceEqDiff, ab_I, ab_L, ab_R, ao_I, ao_L, ao_R, gL_sL, gI_sI, gR_sR, gI_sL, gI_sR, gL_sI, gL_sR, gR_sI, gR_sL, g3]
          exact okc_s (jwo_f (f := 3) (by decide) rfl ⟨by rw [fl_g, sqc_I C.1 (by omega) (by omega), h5, fst0], jq_t jq_f (jq_sq C.1)⟩)
        · have x0 : ¬ vk (rgV S (dR w)) = 0 := fun q => k1 (Or.inl q)
          have y0 : ¬ vk (sidJ S w) = 0 := fun q => k1 (Or.inr q)
          have e0 : fst (wntS (rgV S (dR w))) (wntS (sidJ S w)) = 0 := by
            unfold fst wntS
            simp [x0, y0]
          rw [e0, flt_0]
          exact L515 H hc ⟨by unfold dR; omega, f.2.1.1⟩ (fun r => ⟨by have := hs' r; unfold sRr; omega, f.2.2.1.1⟩) C x0 y0
end STP
