/-! ===== the reference's judge: loads ===== -/
theorem okV_f {E : EV} {t : Int} {S : ST} (h : okS E t S) {r : Nat} (hr : r ≤ 10) (k : vk (rgV S r) = 3) : 0 ≤ vw (rgV S r) ∧ vw (rgV S r) < sF S := by
  have hF := h.1
  unfold rgV at k ⊢
  split
  · show 0 ≤ (sF S : Int) - 1 ∧ (sF S : Int) - 1 < sF S
    omega
  · rename_i z
    rw [if_neg z] at k
    have := (h.2.1 (26 * (sF S - 1) + r) (by omega)).2.2.1 k
    omega
theorem bytN_c (w : B64) : bytN w = 1 ∨ bytN w = 2 ∨ bytN w = 4 ∨ bytN w = 8 := by
  unfold bytN
  repeat' split
  all_goals omega
theorem fO_r (w : B64) : -32768 ≤ fO w ∧ fO w ≤ 32767 := by
  unfold fO
  rw [Int.bmod_def]
  omega
section LOD
variable {w : B64} {S : ST} {E : EV} {t : Int} {σ σ1 : MS} {d px : Nat}
def lH (S : ST) (E : EV) (w : B64) (t : Int) (σ σ1 : MS) (d px : Nat) : Prop := (J0 σ S ∧ okS E t S ∧ canS S ∧ EO σ E) ∧ (gI σ 80 90 = 0 ∧ gI σ 80 85 = t) ∧ (d = 26 * (sF S - 1) + dR w ∧ dR w ≤ 9 ∧ sRr w ≤ 10) ∧ (sqc σ1 σ ∧ aV σ1 px = (rgV S (sRr w)) ∧ inB (px : Int)) ∧ (fM w = 96 ∨ fM w = 128 ∧ ¬ fB w = 3)
theorem lH_ok (h : lH S E w t σ σ1 d px) {v : VL} {τ ρ : MS} (hr : sqc ρ σ1) (hq : sqc τ (wrV ρ d v)) : jpo σ τ 0 (wV S (dR w) v) (gI σ 80 88) (gI σ 80 89) t := by
  obtain ⟨⟨h1, h2, h3, h4⟩, ⟨h5, h6⟩, ⟨h7, h8, h9⟩, ⟨h10, h11, h12⟩, h13⟩ := h
  have hF := h2.1
  refine jpo_w h5 h1 hF.2 (k := d) (by omega) (by rw [h7]; rfl) ?_
  have e : sI σ 80 85 t = σ := by rw [← h6]; exact sI_eta _ _ _
  rw [e]
  exact sqc_t hq (sqc_wV (sqc_t hr h10))
theorem lH_no (h : lH S E w t σ σ1 d px) {f : Int} {v : VL} {τ ρ : MS} (hf : ¬ f = 0) (hr : sqc ρ σ1) (hq : sqc τ (flt ρ f)) : jpo σ τ f (wV S (dR w) v) (gI σ 80 88) (gI σ 80 89) t := by
  obtain ⟨-, ⟨h5, -⟩, -, ⟨h10, -, -⟩, -⟩ := h
  exact jpo_f hf h5 (sqc_t hq (sqc_flt (sqc_t hr h10)))
theorem L511e (h : lH S E w t σ σ1 d px) (hv : lodV E S w = if fM w = 128 then (0, numV (tdN (sgnN (8 * bytN w)))) else (0, numV (wideN (bytN w)))) {ρ : MS} (hr : sqc ρ σ1) (x8 : Option MV) : okc (RR (lkB tb511) (B511_236, [some (mR (some 80)), some (mL w), none, some (mI (fOp w)), some (mI ((bytN w : Nat) : Int)), some (mI (px : Int)), some (mI (d : Int)), some (mI (fO w)), x8], [], ρ)) none (fun τ => jpo σ τ (lodV E S w).1 (wV S (dR w) (lodV E S w).2) (gI σ 80 88) (gI σ 80 89) t) := by
  have h' := h
  obtain ⟨⟨h1, h2, h3, h4⟩, ⟨h5, h6⟩, ⟨h7, h8, h9⟩, ⟨h10, h11, h12⟩, h13⟩ := h'
  have hF := h2.1
  have id : inB (d : Int) := ⟨by omega, by omega⟩
  have bn := bytN_c w
  have e8 : w32 (8 * ((bytN w : Nat) : Int)) = ((8 * bytN w : Nat) : Int) := by rw [w32_i (by omega) (by omega)]; omega
  refine okc_q (ls := [some (mR (some 80)), some (mL w), none, some (mI (fOp w)), some (mI ((bytN w : Nat) : Int)), some (mI (px : Int)), some (mI (d : Int)), some (mI (fO w)), none]) (by repeat (first | exact lq_nil | refine lq_cons (Or.inr rfl) ?_ | refine lq_cons (Or.inl rfl) ?_)) ?_
  rw [hv]
  by_cases c : fM w = 128
  · rw [if_pos c]
    simp only [e511_236, e511_258, e511_269, Option.getD_some, Option.bind_some, Option.toList_some, Option.toList_none, List.cons_append, List.nil_append, and_self, and_true, true_and, false_and, and_false, ite_self, not_true_eq_false, not_false_eq_true, reduceIte, Nat.reduceEqDiff, ab_I, ab_L, ab_R, ao_I, ao_L, ao_R, gL_sL, gI_sI, gR_sR, gI_sL, gI_sR, gL_sI, gL_sR, gR_sI, gR_sL, m224, c, e8, T438 id.1 id.2 (show 1 ≤ 8 * bytN w ∧ 8 * bytN w ≤ 64 by omega), Int.toNat_natCast]
    exact okc_s (lH_ok h hr (sqc_r _))
  · rw [if_neg c]
    simp only [e511_236, e511_269, Option.getD_some, Option.bind_some, Option.toList_some, Option.toList_none, List.cons_append, List.nil_append, and_self, and_true, true_and, false_and, and_false, ite_self, not_true_eq_false, not_false_eq_true, reduceIte, Nat.reduceEqDiff, ab_I, ab_L, ab_R, ao_I, ao_L, ao_R, gL_sL, gI_sI, gR_sR, gI_sL, gI_sR, gL_sI, gL_sR, gR_sI, gR_sL, m224, c, T437 id.1 id.2 (show bytN w ≤ 8 by omega), Int.toNat_natCast]
    exact okc_s (lH_ok h hr (sqc_r _))
set_option maxHeartbeats 1000000 in
theorem L511 (h : lH S E w t σ σ1 d px) : okc (RR (lkB tb511) (B511_32, [some (mR (some 80)), some (mL w), none, some (mI (fOp w)), some (mI ((bytN w : Nat) : Int)), some (mI (px : Int)), some (mI (d : Int)), some (mI (fO w)), none], [], flt σ1 (wntS (rgV S (sRr w))))) none (fun τ => jpo σ τ (lodV E S w).1 (wV S (dR w) (lodV E S w).2) (gI σ 80 88) (gI σ 80 89) t) := by
  have h' := h
  obtain ⟨⟨h1, h2, h3, h4⟩, ⟨h5, h6⟩, ⟨h7, h8, h9⟩, ⟨h10, h11, h12⟩, h13⟩ := h'
  have hF := h2.1
  have id : inB (d : Int) := ⟨by omega, by omega⟩
  have g0 : gI σ1 80 90 = 0 := (sqc_I h10 (by omega) (by omega)).trans h5
  have okX := okV_r h2 h9
  have canX := can_r h3 hF.1 h9
  have fo := fO_r w
  have bn := bytN_c w
  have k118 : gI σ1 118 px = vk (rgV S (sRr w)) := by rw [q118, h11]
  by_cases c0 : vk (rgV S (sRr w)) = 0
  · have un : lodV E S w = (3, unsV) := by unfold lodV; rw [if_pos c0]
    have e : wntS (rgV S (sRr w)) = 3 := if_pos c0
    have g : ¬ gI (flt σ1 3) 80 90 = 0 := by rw [fl_g, g0, fst0]; decide
    rw [e, un]
    simp only [e511_32, Option.getD_some, Option.bind_some, Option.toList_some, Option.toList_none, List.cons_append, List.nil_append, and_self, and_true, true_and, false_and, and_false, ite_self, not_true_eq_false, not_false_eq_true, reduceIte, Nat.reduceEqDiff, ab_I, ab_L, ab_R, ao_I, ao_L, ao_R, gL_sL, gI_sI, gR_sR, gI_sL, gI_sR, gL_sI, gL_sR, gR_sI, gR_sL, g]
    exact okc_s (lH_no h (by decide) (sqc_r _) (sqc_r _))
  · have e : wntS (rgV S (sRr w)) = 0 := if_neg c0
    rw [e, flt_0]
    by_cases c2 : vk (rgV S (sRr w)) = 2
    · by_cases G : fOp w = 97 ∧ 0 ≤ fO w ∧ fO w ≤ 16 ∧ fO w % 4 = 0
      · have un : lodV E S w = if fO w ≤ 4 then (0, mkV (if fO w = 0 then 7 else 8) 0 0) else (0, numV (wideN 4)) := by
          unfold lodV
          rw [if_neg c0, if_pos c2, if_neg (not_not_intro G)]
        obtain ⟨G1, G2, G3, G4⟩ := G
        have tm : Int.tmod (fO w) 4 = 0 := by rw [Int.tmod_eq_emod_of_nonneg G2]; exact G4
        have s81 : RR (lkB tb511) (B511_32, [some (mR (some 80)), some (mL w), none, some (mI (fOp w)), some (mI ((bytN w : Nat) : Int)), some (mI (px : Int)), some (mI (d : Int)), some (mI (fO w)), none], [], σ1) = RR (lkB tb511) (B511_81, [some (mR (some 80)), some (mL w), none, some (mI (fOp w)), some (mI ((bytN w : Nat) : Int)), some (mI (px : Int)), some (mI (d : Int)), some (mI (fO w)), none], [mI 1], σ1) := by
          have n1 : ¬ fO w < 0 := by omega
          have n2 : ¬ 16 < fO w := by omega
          simp only [e511_32, Option.getD_some, Option.bind_some, Option.toList_some, Option.toList_none, List.cons_append, List.nil_append, and_self, and_true, true_and, false_and, and_false, ite_self, not_true_eq_false, not_false_eq_true, reduceIte, Nat.reduceEqDiff, ab_I, ab_L, ab_R, ao_I, ao_L, ao_R, gL_sL, gI_sI, gR_sR, gI_sL, gI_sR, gL_sI, gL_sR, gR_sI, gR_sL, g0, g_118, h12.1, h12.2, Int.toNat_natCast, k118, c2, G1, n1, n2, tm]
        rw [s81, un]
        by_cases c4 : fO w ≤ 4
        · have n4 : ¬ 4 < fO w := by omega
          rw [if_pos c4]
          by_cases o0 : fO w = 0
          · simp only [e511_81, e511_118, e511_123, e511_133, Option.getD_some, Option.bind_some, Option.toList_some, Option.toList_none, List.cons_append, List.nil_append, and_self, and_true, true_and, false_and, and_false, ite_self, not_true_eq_false, not_false_eq_true, reduceIte, Nat.reduceEqDiff, ab_I, ab_L, ab_R, ao_I, ao_L, ao_R, gL_sL, gI_sI, gR_sR, gI_sL, gI_sR, gL_sI, gL_sR, gR_sI, gR_sL, oneI, o0, Int.reduceLT, T431 id (show (0 : Int) ≤ 7 ∧ (7 : Int) ≤ 10 by decide), Int.toNat_natCast]
            exact okc_s (lH_ok h (sqc_r _) (sqc_r _))
          · simp only [e511_81, e511_118, e511_123, e511_133, Option.getD_some, Option.bind_some, Option.toList_some, Option.toList_none, List.cons_append, List.nil_append, and_self, and_true, true_and, false_and, and_false, ite_self, not_true_eq_false, not_false_eq_true, reduceIte, Nat.reduceEqDiff, ab_I, ab_L, ab_R, ao_I, ao_L, ao_R, gL_sL, gI_sI, gR_sR, gI_sL, gI_sR, gL_sI, gL_sR, gR_sI, gR_sL, oneI, n4, o0, T431 id (show (0 : Int) ≤ 8 ∧ (8 : Int) ≤ 10 by decide), Int.toNat_natCast]
            exact okc_s (lH_ok h (sqc_r _) (sqc_r _))
        · have n4 : 4 < fO w := by omega
          have t4 := T437 (σ := σ1) (n := 4) id.1 id.2 (by omega)
          rw [show ((4 : Nat) : Int) = 4 from rfl] at t4
          rw [if_neg c4]
          simp only [e511_81, e511_133, Option.getD_some, Option.bind_some, Option.toList_some, Option.toList_none, List.cons_append, List.nil_append, and_self, and_true, true_and, false_and, and_false, ite_self, not_true_eq_false, not_false_eq_true, reduceIte, Nat.reduceEqDiff, ab_I, ab_L, ab_R, ao_I, ao_L, ao_R, gL_sL, gI_sI, gR_sR, gI_sL, gI_sR, gL_sI, gL_sR, gR_sI, gR_sL, oneI, n4, t4, Int.toNat_natCast]
          exact okc_s (lH_ok h (sqc_r _) (sqc_r _))
      · have un : lodV E S w = (9, unsV) := by
          unfold lodV
          rw [if_neg c0, if_pos c2, if_pos G]
        have s81 : RR (lkB tb511) (B511_32, [some (mR (some 80)), some (mL w), none, some (mI (fOp w)), some (mI ((bytN w : Nat) : Int)), some (mI (px : Int)), some (mI (d : Int)), some (mI (fO w)), none], [], σ1) = RR (lkB tb511) (B511_81, [some (mR (some 80)), some (mL w), none, some (mI (fOp w)), some (mI ((bytN w : Nat) : Int)), some (mI (px : Int)), some (mI (d : Int)), some (mI (fO w)), none], [mI 0], σ1) := by
          by_cases G1 : fOp w = 97
          · by_cases G2 : fO w < 0
            · simp only [e511_32, e511_80, Option.getD_some, Option.bind_some, Option.toList_some, Option.toList_none, List.cons_append, List.nil_append, and_self, and_true, true_and, false_and, and_false, ite_self, not_true_eq_false, not_false_eq_true, reduceIte, Nat.reduceEqDiff, ab_I, ab_L, ab_R, ao_I, ao_L, ao_R, gL_sL, gI_sI, gR_sR, gI_sL, gI_sR, gL_sI, gL_sR, gR_sI, gR_sL, g0, g_118, h12.1, h12.2, Int.toNat_natCast, k118, c2, G1, G2]
            · by_cases G3 : 16 < fO w
              · simp only [e511_32, e511_80, Option.getD_some, Option.bind_some, Option.toList_some, Option.toList_none, List.cons_append, List.nil_append, and_self, and_true, true_and, false_and, and_false, ite_self, not_true_eq_false, not_false_eq_true, reduceIte, Nat.reduceEqDiff, ab_I, ab_L, ab_R, ao_I, ao_L, ao_R, gL_sL, gI_sI, gR_sR, gI_sL, gI_sR, gL_sI, gL_sR, gR_sI, gR_sL, g0, g_118, h12.1, h12.2, Int.toNat_natCast, k118, c2, G1, G2, G3]
              · have tm : ¬ Int.tmod (fO w) 4 = 0 := by
                  rw [Int.tmod_eq_emod_of_nonneg (by omega)]
                  exact fun z => G ⟨G1, by omega, by omega, z⟩
                simp only [e511_32, e511_80, Option.getD_some, Option.bind_some, Option.toList_some, Option.toList_none, List.cons_append, List.nil_append, and_self, and_true, true_and, false_and, and_false, ite_self, not_true_eq_false, not_false_eq_true, reduceIte, Nat.reduceEqDiff, ab_I, ab_L, ab_R, ao_I, ao_L, ao_R, gL_sL, gI_sI, gR_sR, gI_sL, gI_sR, gL_sI, gL_sR, gR_sI, gR_sL, g0, g_118, h12.1, h12.2, Int.toNat_natCast, k118, c2, G1, G2, G3, tm]
          · simp only [e511_32, e511_80, Option.getD_some, Option.bind_some, Option.toList_some, Option.toList_none, List.cons_append, List.nil_append, and_self, and_true, true_and, false_and, and_false, ite_self, not_true_eq_false, not_false_eq_true, reduceIte, Nat.reduceEqDiff, ab_I, ab_L, ab_R, ao_I, ao_L, ao_R, gL_sL, gI_sI, gR_sR, gI_sL, gI_sR, gL_sI, gL_sR, gR_sI, gR_sL, g0, g_118, h12.1, h12.2, Int.toNat_natCast, k118, c2, G1]
        rw [s81, un]
        simp only [e511_81, e511_94, e511_133, Option.getD_some, Option.bind_some, Option.toList_some, Option.toList_none, List.cons_append, List.nil_append, and_self, and_true, true_and, false_and, and_false, ite_self, not_true_eq_false, not_false_eq_true, reduceIte, Nat.reduceEqDiff, ab_I, ab_L, ab_R, ao_I, ao_L, ao_R, gL_sL, gI_sI, gR_sR, gI_sL, gI_sR, gL_sI, gL_sR, gR_sI, gR_sL, T473]
        exact okc_s (lH_no h (by decide) (sqc_r _) (sqc_r _))
    · by_cases c3 : plcF (rgV S (sRr w)) = 0
      · have hm : mvs (rgV S (sRr w)) := by
          unfold plcF at c3
          by_cases z : isMb (rgV S (sRr w))
          · rw [if_pos z] at c3
            exact absurd c3 (by decide)
          · rw [if_neg z] at c3
            refine Classical.byContradiction fun q => ?_
            rw [if_pos q] at c3
            exact absurd c3 (by decide)
        have t3 := T503 (σ := σ1) (x := (px : Int)) (y := fO w) (n := bytN w) (g := 3) (t := t) (E := E) h12 (by rw [Int.toNat_natCast, h11]; exact hm) (by rw [Int.toNat_natCast, h11]; exact okX) (EO_sq h10 h4) (by rw [Int.toNat_natCast, h11]; exact canX.2.2.2.2.2) fo (by omega)
        simp only [Int.toNat_natCast, h11] at t3
        have s154 : RR (lkB tb511) (B511_32, [some (mR (some 80)), some (mL w), none, some (mI (fOp w)), some (mI ((bytN w : Nat) : Int)), some (mI (px : Int)), some (mI (d : Int)), some (mI (fO w)), none], [], σ1) = RR (lkB tb511) (B511_154, [some (mR (some 80)), some (mL w), none, some (mI (fOp w)), some (mI ((bytN w : Nat) : Int)), some (mI (px : Int)), some (mI (d : Int)), some (mI (fO w)), none], [mI (b2 (room E (rgV S (sRr w)) (fO w) (bytN w)))], (if vk (rgV S (sRr w)) = 3 then sI (sI σ1 80 103 (vw (rgV S (sRr w)))) 80 102 (vo (rgV S (sRr w)) + fO w + 128) else σ1)) := by
          have z1 : ∀ d : Decidable (fst (0 : Int) 0 = 0), @b2 (fst (0 : Int) 0 = 0) d = 1 := fun d => b2_yes rfl
          simp only [e511_32, e511_140, Option.getD_some, Option.bind_some, Option.toList_some, Option.toList_none, List.cons_append, List.nil_append, and_self, and_true, true_and, false_and, and_false, ite_self, not_true_eq_false, not_false_eq_true, reduceIte, Nat.reduceEqDiff, ab_I, ab_L, ab_R, ao_I, ao_L, ao_R, gL_sL, gI_sI, gR_sR, gI_sL, gI_sR, gL_sI, gL_sR, gR_sI, gR_sL, g0, g_118, h12.1, h12.2, Int.toNat_natCast, k118, c2, T510 h12, h11, c3, flt_0, z1, oneI, t3]
        rw [s154]
        by_cases c5 : room E (rgV S (sRr w)) (fO w) (bytN w)
        · rw [b2_yes c5]
          by_cases k3 : vk (rgV S (sRr w)) = 3
          · rw [if_pos k3]
            have hf := okV_f h2 h9 k3
            have hr : -128 ≤ vo (rgV S (sRr w)) + fO w ∧ vo (rgV S (sRr w)) + fO w ≤ -(bytN w : Int) := by
              have := c5
              unfold room at this
              rw [if_pos k3] at this
              exact this
            have eb : vo (rgV S (sRr w)) + fO w + 128 = (((vo (rgV S (sRr w)) + fO w + 128).toNat : Nat) : Int) := by omega
            generalize eB : (vo (rgV S (sRr w)) + fO w + 128).toNat = b at eb
            generalize hρ : sI (sI σ1 80 103 (vw (rgV S (sRr w)))) 80 102 (vo (rgV S (sRr w)) + fO w + 128) = ρ
            have r1 : sqc ρ σ1 := by rw [← hρ]; exact sqc_pb
            have r2 : gI ρ 80 102 = (b : Int) := by rw [← hρ, gI_sI, if_pos ⟨rfl, rfl⟩, eb]
            have r3 : gI ρ 80 103 = vw (rgV S (sRr w)) := by rw [← hρ, gI_sI, if_neg (by omega), gI_sI, if_pos ⟨rfl, rfl⟩]
            have r4 : aV ρ px = (rgV S (sRr w)) := by rw [← hρ, aV_sI (by omega), aV_sI (by omega), h11]
            have r5 : J0 ρ S := JSt_sq (sqc_t r1 h10) (by omega) hF.2 h1
            have r6 : gI ρ 118 px = 3 := by rw [q118, r4]; exact k3
            have lp : 26 * (vw (rgV S (sRr w))).toNat + 10 + b / 8 < 26 * sF S := by omega
            have vp := J0_v r5 lp
            have t4 : MM 504 [mR (some 80), mI (b : Int)] ρ = some (some (mI ((26 * (vw (rgV S (sRr w))).toNat + 10 + b / 8 : Nat) : Int)), ρ) := by
              have := T504 (σ := ρ) (b := b) (by omega) (by omega)
              rwa [r3] at this
            have t5 : MM 505 [mR (some 80), mI ((bytN w : Nat) : Int)] ρ = some (some (mI (b2 (areS S (vw (rgV S (sRr w))).toNat b (bytN w) = true))), ρ) := by
              have := T505 (σ := ρ) (n := bytN w) r5 hF.2 h3 (by omega) (by omega) (by omega)
              rwa [r3, r2, Int.toNat_natCast] at this
            generalize hp : 26 * (vw (rgV S (sRr w))).toNat + 10 + b / 8 = p at lp vp t4
            have ip : inB (p : Int) := ⟨by omega, by omega⟩
            have vkp := (h2.2.1 p lp).1
            have k118p : gI ρ 118 p = vk (sV S p) := by rw [q118, vp]
            have s182 : RR (lkB tb511) (B511_154, [some (mR (some 80)), some (mL w), none, some (mI (fOp w)), some (mI ((bytN w : Nat) : Int)), some (mI (px : Int)), some (mI (d : Int)), some (mI (fO w)), none], [mI 1], ρ) = RR (lkB tb511) (B511_182, [some (mR (some 80)), some (mL w), none, some (mI (fOp w)), some (mI ((bytN w : Nat) : Int)), some (mI (px : Int)), some (mI (d : Int)), some (mI (fO w)), none], [mI (p : Int)], ρ) := by
              simp only [e511_154, Option.getD_some, Option.bind_some, Option.toList_some, Option.toList_none, List.cons_append, List.nil_append, and_self, and_true, true_and, false_and, and_false, ite_self, not_true_eq_false, not_false_eq_true, reduceIte, Nat.reduceEqDiff, ab_I, ab_L, ab_R, ao_I, ao_L, ao_R, gL_sL, gI_sI, gR_sR, gI_sL, gI_sR, gL_sI, gL_sR, gR_sI, gR_sL, oneI, g_118, h12.1, h12.2, Int.toNat_natCast, r6, r2, t4]
            rw [s182]
            have s220 : ¬ (bytN w = 8 ∧ b % 8 = 0 ∧ ¬ vk (sV S p) = 0) → RR (lkB tb511) (B511_182, [some (mR (some 80)), some (mL w), none, some (mI (fOp w)), some (mI ((bytN w : Nat) : Int)), some (mI (px : Int)), some (mI (d : Int)), some (mI (fO w)), none], [mI (p : Int)], ρ) = RR (lkB tb511) (B511_220, [some (mR (some 80)), some (mL w), none, some (mI (fOp w)), some (mI ((bytN w : Nat) : Int)), some (mI (px : Int)), some (mI (d : Int)), some (mI (fO w)), some (mI (p : Int))], [], ρ) := fun q => by
              by_cases a1 : bytN w = 8
              · by_cases a2 : b % 8 = 0
                · have a3 : vk (sV S p) = 0 := Classical.byContradiction fun z => q ⟨a1, a2, z⟩
                  simp only [e511_182, Option.getD_some, Option.bind_some, Option.toList_some, Option.toList_none, List.cons_append, List.nil_append, and_self, and_true, true_and, false_and, and_false, ite_self, not_true_eq_false, not_false_eq_true, reduceIte, Nat.reduceEqDiff, ab_I, ab_L, ab_R, ao_I, ao_L, ao_R, gL_sL, gI_sI, gR_sR, gI_sL, gI_sR, gL_sI, gL_sR, gR_sI, gR_sL, a1, r2, tmod8, a2, g_118, ip.1, ip.2, Int.toNat_natCast, k118p, a3]
                  all_goals rfl
                · have a2' : ¬ ((b % 8 : Nat) : Int) = 0 := by omega
                  simp only [e511_182, Option.getD_some, Option.bind_some, Option.toList_some, Option.toList_none, List.cons_append, List.nil_append, and_self, and_true, true_and, false_and, and_false, ite_self, not_true_eq_false, not_false_eq_true, reduceIte, Nat.reduceEqDiff, ab_I, ab_L, ab_R, ao_I, ao_L, ao_R, gL_sL, gI_sI, gR_sR, gI_sL, gI_sR, gL_sI, gL_sR, gR_sI, gR_sL, a1, r2, tmod8, a2']
                  all_goals rfl
              · have a1' : ¬ ((bytN w : Nat) : Int) = 8 := by omega
                simp only [e511_182, Option.getD_some, Option.bind_some, Option.toList_some, Option.toList_none, List.cons_append, List.nil_append, and_self, and_true, true_and, false_and, and_false, ite_self, not_true_eq_false, not_false_eq_true, reduceIte, Nat.reduceEqDiff, ab_I, ab_L, ab_R, ao_I, ao_L, ao_R, gL_sL, gI_sI, gR_sR, gI_sL, gI_sR, gL_sI, gL_sR, gR_sI, gR_sL, a1']
            have un : lodV E S w = if (bytN w = 8 ∧ b % 8 = 0 ∧ ¬ vk (sV S p) = 0) then (0, sV S p) else if areS S (vw (rgV S (sRr w))).toNat b (bytN w) = false then (6, unsV) else if fM w = 128 then (0, numV (tdN (sgnN (8 * bytN w)))) else (0, numV (wideN (bytN w))) := by
              unfold lodV
              rw [if_neg c0, if_neg c2, if_neg (not_not_intro c3), if_neg (not_not_intro c5), eB, hp]
              have e3 : (vo (rgV S (sRr w)) + fO w + 128) % 8 = 0 ↔ b % 8 = 0 := by omega
              by_cases a1 : bytN w = 8 ∧ b % 8 = 0 ∧ ¬ vk (sV S p) = 0
              · rw [if_pos a1, if_pos ⟨k3, ⟨a1.1, e3.mpr a1.2.1⟩, a1.2.2⟩]
              · rw [if_neg a1, if_neg (fun q => a1 ⟨q.2.1.1, e3.mp q.2.1.2, q.2.2⟩)]
                by_cases a2 : areS S (vw (rgV S (sRr w))).toNat b (bytN w) = false
                · rw [if_pos a2, if_pos ⟨k3, a2⟩]
                · rw [if_neg a2, if_neg (fun q => a2 q.2)]
            by_cases W : bytN w = 8 ∧ b % 8 = 0 ∧ ¬ vk (sV S p) = 0
            · rw [if_pos W] at un
              rw [un]
              obtain ⟨a1, a2, a3⟩ := W
              have a2' : ((b % 8 : Nat) : Int) = 0 := by omega
              have a1' : ((bytN w : Nat) : Int) = 8 := by omega
              have tv := T430 (σ := ρ) ip id (by rw [Int.toNat_natCast, vp]; omega)
              simp only [Int.toNat_natCast, vp] at tv
              simp only [e511_182, e511_219, Option.getD_some, Option.bind_some, Option.toList_some, Option.toList_none, List.cons_append, List.nil_append, and_self, and_true, true_and, false_and, and_false, ite_self, not_true_eq_false, not_false_eq_true, reduceIte, Nat.reduceEqDiff, ab_I, ab_L, ab_R, ao_I, ao_L, ao_R, gL_sL, gI_sI, gR_sR, gI_sL, gI_sR, gL_sI, gL_sR, gR_sI, gR_sL, a1', r2, tmod8, a2', g_118, ip.1, ip.2, Int.toNat_natCast, k118p, a3, tv]
              exact okc_s (lH_ok h r1 (sqc_r _))
            · rw [s220 W]
              rw [if_neg W] at un
              by_cases V : areS S (vw (rgV S (sRr w))).toNat b (bytN w) = true
              · rw [if_neg (by rw [V]; decide)] at un
                have s236 : RR (lkB tb511) (B511_220, [some (mR (some 80)), some (mL w), none, some (mI (fOp w)), some (mI ((bytN w : Nat) : Int)), some (mI (px : Int)), some (mI (d : Int)), some (mI (fO w)), some (mI (p : Int))], [], ρ) = RR (lkB tb511) (B511_236, [some (mR (some 80)), some (mL w), none, some (mI (fOp w)), some (mI ((bytN w : Nat) : Int)), some (mI (px : Int)), some (mI (d : Int)), some (mI (fO w)), some (mI (p : Int))], [], ρ) := by
                  simp only [e511_220, e511_226, Option.getD_some, Option.bind_some, Option.toList_some, Option.toList_none, List.cons_append, List.nil_append, and_self, and_true, true_and, false_and, and_false, ite_self, not_true_eq_false, not_false_eq_true, reduceIte, Nat.reduceEqDiff, ab_I, ab_L, ab_R, ao_I, ao_L, ao_R, gL_sL, gI_sI, gR_sR, gI_sL, gI_sR, gL_sI, gL_sR, gR_sI, gR_sL, t5, b2_yes V, oneI]
                rw [s236]
                exact L511e h un r1 _
              · have V' : areS S (vw (rgV S (sRr w))).toNat b (bytN w) = false := by simpa using V
                rw [if_pos V'] at un
                rw [un]
                simp only [e511_220, e511_226, e511_235, Option.getD_some, Option.bind_some, Option.toList_some, Option.toList_none, List.cons_append, List.nil_append, and_self, and_true, true_and, false_and, and_false, ite_self, not_true_eq_false, not_false_eq_true, reduceIte, Nat.reduceEqDiff, ab_I, ab_L, ab_R, ao_I, ao_L, ao_R, gL_sL, gI_sI, gR_sR, gI_sL, gI_sR, gL_sI, gL_sR, gR_sI, gR_sL, t5, b2_no V, T473]
                exact okc_s (lH_no h (by decide) r1 (sqc_r _))
          · rw [if_neg k3]
            have un : lodV E S w = if fM w = 128 then (0, numV (tdN (sgnN (8 * bytN w)))) else (0, numV (wideN (bytN w))) := by
              unfold lodV
              rw [if_neg c0, if_neg c2, if_neg (not_not_intro c3), if_neg (not_not_intro c5), if_neg (fun q => k3 q.1), if_neg (fun q => k3 q.1)]
            have s236 : RR (lkB tb511) (B511_154, [some (mR (some 80)), some (mL w), none, some (mI (fOp w)), some (mI ((bytN w : Nat) : Int)), some (mI (px : Int)), some (mI (d : Int)), some (mI (fO w)), none], [mI 1], σ1) = RR (lkB tb511) (B511_236, [some (mR (some 80)), some (mL w), none, some (mI (fOp w)), some (mI ((bytN w : Nat) : Int)), some (mI (px : Int)), some (mI (d : Int)), some (mI (fO w)), none], [], σ1) := by
              simp only [e511_154, Option.getD_some, Option.bind_some, Option.toList_some, Option.toList_none, List.cons_append, List.nil_append, and_self, and_true, true_and, false_and, and_false, ite_self, not_true_eq_false, not_false_eq_true, reduceIte, Nat.reduceEqDiff, ab_I, ab_L, ab_R, ao_I, ao_L, ao_R, gL_sL, gI_sI, gR_sR, gI_sL, gI_sR, gL_sI, gL_sR, gR_sI, gR_sL, oneI, g_118, h12.1, h12.2, Int.toNat_natCast, k118, k3]
            rw [s236]
            exact L511e h un (sqc_r _) _
        · have un : lodV E S w = (5, unsV) := by
            unfold lodV
            rw [if_neg c0, if_neg c2, if_neg (not_not_intro c3), if_pos c5]
          rw [b2_no c5, un]
          generalize hρ : (if vk (rgV S (sRr w)) = 3 then sI (sI σ1 80 103 (vw (rgV S (sRr w)))) 80 102 (vo (rgV S (sRr w)) + fO w + 128) else σ1) = ρ
          have r1 : sqc ρ σ1 := by
            rw [← hρ]
            split
            · exact sqc_pb
            · exact sqc_r _
          simp only [e511_154, e511_162, Option.getD_some, Option.bind_some, Option.toList_some, Option.toList_none, List.cons_append, List.nil_append, and_self, and_true, true_and, false_and, and_false, ite_self, not_true_eq_false, not_false_eq_true, reduceIte, Nat.reduceEqDiff, ab_I, ab_L, ab_R, ao_I, ao_L, ao_R, gL_sL, gI_sI, gR_sR, gI_sL, gI_sR, gL_sI, gL_sR, gR_sI, gR_sL, T473]
          exact okc_s (lH_no h (by decide) r1 (sqc_r _))
      · have un : lodV E S w = (plcF (rgV S (sRr w)), unsV) := by
          unfold lodV
          rw [if_neg c0, if_neg c2, if_pos c3]
        have z1 : ∀ d : Decidable (fst (0 : Int) (plcF (rgV S (sRr w))) = 0), @b2 (fst (0 : Int) (plcF (rgV S (sRr w))) = 0) d = 0 := fun d => b2_no (by rw [fst0]; exact c3)
        rw [un]
        simp only [e511_32, e511_140, Option.getD_some, Option.bind_some, Option.toList_some, Option.toList_none, List.cons_append, List.nil_append, and_self, and_true, true_and, false_and, and_false, ite_self, not_true_eq_false, not_false_eq_true, reduceIte, Nat.reduceEqDiff, ab_I, ab_L, ab_R, ao_I, ao_L, ao_R, gL_sL, gI_sI, gR_sR, gI_sL, gI_sR, gL_sI, gL_sR, gR_sI, gR_sL, g0, g_118, h12.1, h12.2, Int.toNat_natCast, k118, c2, T510 h12, h11, z1]
        exact okc_s (lH_no h c3 (sqc_r _) (sqc_r _))
theorem T511 (hJ : J0 σ S) (ho : okS E t S) (hc : canS S) (hE : EO σ E) (hw : okMem w) (hl : fL w = 1) (h0 : gI σ 80 90 = 0) (ht : gI σ 80 85 = t) : okc (MM 511 [mR (some 80), mL w, mI (fOp w), mI ((bytN w : Nat) : Int)] σ) none (fun τ => jpo σ τ (lodV E S w).1 (wV S (dR w) (lodV E S w).2) (gI σ 80 88) (gI σ 80 89) t) := by
  have hF := ho.1
  have f := fld_rng w
  have f1 : 0 ≤ fD w := f.2.1.1
  have f2 : 0 ≤ fS w := f.2.2.1.1
  have hw2 : (fM w = 96 ∨ fM w = 128 ∧ ¬ fB w = 3) ∧ fD w ≤ 9 ∧ fS w ≤ 10 ∧ fI w = 0 := by
    have := hw
    unfold okMem at this
    rwa [if_pos hl] at this
  obtain ⟨m1, m2, m3, -⟩ := hw2
  have t1 := T492 (σ := σ) (r := fS w) ⟨f2, m3⟩ (by rw [hJ.1]; omega)
  have ip := plc_b hJ.1 hF (r := fS w) ⟨f2, m3⟩
  have vx := at_v hJ hF (r := fS w) ⟨f2, m3⟩
  have ed : plc (gI σ 123 0) (fD w) = 26 * (sF S - 1) + dR w := plc_9 hJ.1 hF.1 f1 m2
  generalize plc (gI σ 123 0) (fS w) = px at t1 ip vx
  generalize hσ1 : mk10 σ (fS w) = σ1 at t1 vx
  have r1 : sqc σ1 σ := by rw [← hσ1]; exact mk_sq
  have g123 : gI σ1 123 0 = gI σ 123 0 := sqc_I r1 (by omega) (by omega)
  have t2 := T492 (σ := σ1) (r := fD w) ⟨f1, by omega⟩ (by rw [g123, hJ.1]; omega)
  rw [g123, ed, mkr_9 m2] at t2
  have H : lH S E w t σ σ1 (26 * (sF S - 1) + dR w) px := ⟨⟨hJ, ho, hc, hE⟩, ⟨h0, ht⟩, ⟨rfl, by unfold dR; omega, by unfold sRr; omega⟩, ⟨r1, vx, ip⟩, m1⟩
  have s32 : MM 511 [mR (some 80), mL w, mI (fOp w), mI ((bytN w : Nat) : Int)] σ = RR (lkB tb511) (B511_32, [some (mR (some 80)), some (mL w), none, some (mI (fOp w)), some (mI ((bytN w : Nat) : Int)), some (mI (px : Int)), some (mI ((26 * (sF S - 1) + dR w : Nat) : Int)), some (mI (fO w)), none], [], flt σ1 (wntS (rgV S (sRr w)))) := by
    simp only [M511, e511_0, e511_5, e511_8, e511_15, e511_18, e511_24, Option.getD_some, Option.bind_some, Option.toList_some, Option.toList_none, List.cons_append, List.nil_append, and_self, and_true, true_and, false_and, and_false, ite_self, not_true_eq_false, not_false_eq_true, reduceIte, Nat.reduceEqDiff, ab_I, ab_L, ab_R, ao_I, ao_L, ao_R, gL_sL, gI_sI, gR_sR, gI_sL, gI_sR, gL_sI, gL_sR, gR_sI, gR_sL, T334, T333, T335, t1, t2, T494 ip, Int.toNat_natCast, vx]
  rw [s32]
  exact L511 H
end LOD
