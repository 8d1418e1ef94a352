/-! ===== the reference's judge: stores ===== -/
section STO
variable {w : B64} {S : ST} {E : EV} {t : Int} {σ σ1 : MS} {y : Nat}
def sH4 (S : ST) (E : EV) (w : B64) (t : Int) (σ σ1 : MS) (y : Nat) : Prop := (J0 σ S ∧ okS E t S ∧ canS S ∧ EO σ E) ∧ (gI σ 80 90 = 0 ∧ gI σ 80 85 = t) ∧ (dR w ≤ 10 ∧ (0 ≤ vk (if fL w = 3 then rgV S (sRr w) else numV (cstN (iL (fI w)))) ∧ vk (if fL w = 3 then rgV S (sRr w) else numV (cstN (iL (fI w)))) ≤ 10)) ∧ (sqc σ1 σ ∧ aV σ1 32661 = (rgV S (dR w)) ∧ aV σ1 y = (if fL w = 3 then rgV S (sRr w) else numV (cstN (iL (fI w)))) ∧ inB (y : Int))
/-- what is behind, but for what the stack has -/
theorem sH_ok (h : sH4 S E w t σ σ1 y) {τ ρ : MS} (hr : sqc ρ σ1) (hq : sqc τ ρ) : jpo σ τ 0 S (gI σ 80 88) (gI σ 80 89) t := by
  obtain ⟨⟨h1, h2, h3, h4⟩, ⟨h5, h6⟩, h7, ⟨h10, h11, h12, h13⟩⟩ := h
  rw [← h6]
  exact jpo_s h5 h1 h2.1.2 (sqc_t hq (sqc_t hr h10))
theorem sH_no (h : sH4 S E w t σ σ1 y) {f : Int} {S' : ST} {τ ρ : MS} (hf : ¬ f = 0) (hr : sqc ρ σ1) (hq : sqc τ (flt ρ f)) : jpo σ τ f S' (gI σ 80 88) (gI σ 80 89) t := by
  obtain ⟨-, ⟨h5, -⟩, -, ⟨h10, -, -, -⟩⟩ := h
  exact jpo_f hf h5 (sqc_t hq (sqc_flt (sqc_t hr h10)))
set_option maxHeartbeats 2000000 in
theorem L512 (h : sH4 S E w t σ σ1 y) (hk : ¬ vk (rgV S (dR w)) = 0) (hky : ¬ vk (if fL w = 3 then rgV S (sRr w) else numV (cstN (iL (fI w)))) = 0) : okc (RR (lkB tb512) (B512_80, [some (mR (some 80)), some (mL w), none, some (mI (fOp w)), some (mI ((bytN w : Nat) : Int)), some (mI (32661 : Int)), some (mI (fO w)), some (mI (y : Int)), none], [], σ1)) none (fun τ => jpo σ τ (stoV E S w).1 (stoV E S w).2 (gI σ 80 88) (gI σ 80 89) t) := by
  have h' := h
  obtain ⟨⟨h1, h2, h3, h4⟩, ⟨h5, h6⟩, ⟨h8, h9⟩, ⟨h10, h11, h12, h13⟩⟩ := h'
  have hF := h2.1
  have bX : inB 32661 := by decide
  have nX : (32661 : Int).toNat = 32661 := rfl
  have g0 : gI σ1 80 90 = 0 := (sqc_I h10 (by omega) (by omega)).trans h5
  have okX := okV_r h2 h8
  have canX := can_r h3 hF.1 h8
  have fo := fO_r w
  have bn := bytN_c w
  have k118 : gI σ1 118 32661 = vk (rgV S (dR w)) := by rw [q118, h11]
  have k118y : gI σ1 118 y = vk (if fL w = 3 then rgV S (sRr w) else numV (cstN (iL (fI w)))) := by rw [q118, h12]
  have eY : (if fL w = 3 then rgV S (sRr w) else numV (cstN (BitVec.ofInt 64 (fI w)))) = (if fL w = 3 then rgV S (sRr w) else numV (cstN (iL (fI w)))) := rfl
  generalize hY : (if fL w = 3 then rgV S (sRr w) else numV (cstN (iL (fI w)))) = Y at *
  by_cases c2 : vk (rgV S (dR w)) = 2
  · by_cases G : bytN w = 4 ∧ fO w = 12
    · by_cases q1 : vk Y = 1
      · have un : stoV E S w = (0, S) := by
          unfold stoV
          rw [eY, if_neg hk, if_neg hky, if_pos c2, if_neg (by omega), if_neg (not_not_intro q1)]
        rw [un]
        simp only [e512_80, e512_138, Option.getD_some, Option.bind_some, Option.toList_some, Option.toList_none, List.cons_append, List.nil_append, and_self, and_true, true_and, false_and, and_false, ite_self, not_true_eq_false, not_false_eq_true, reduceIte, Nat.reduceEqDiff, ab_I, ab_L, ab_R, ao_I, ao_L, ao_R, gL_sL, gI_sI, gR_sR, gI_sL, gI_sR, gL_sI, gL_sR, gR_sI, gR_sL, g0, g_118, Int.reduceLT, Int.reduceLE, nX, k118, c2, G.1, G.2, h13.1, h13.2, Int.toNat_natCast, k118y, q1, Int.cast_ofNat_Int]
        exact okc_s (sH_ok h (sqc_r _) (sqc_r _))
      · have un : stoV E S w = (7, S) := by
          unfold stoV
          rw [eY, if_neg hk, if_neg hky, if_pos c2, if_neg (by omega), if_pos q1]
        rw [un]
        simp only [e512_80, e512_138, Option.getD_some, Option.bind_some, Option.toList_some, Option.toList_none, List.cons_append, List.nil_append, and_self, and_true, true_and, false_and, and_false, ite_self, not_true_eq_false, not_false_eq_true, reduceIte, Nat.reduceEqDiff, ab_I, ab_L, ab_R, ao_I, ao_L, ao_R, gL_sL, gI_sI, gR_sR, gI_sL, gI_sR, gL_sI, gL_sR, gR_sI, gR_sL, g0, g_118, Int.reduceLT, Int.reduceLE, nX, k118, c2, G.1, G.2, h13.1, h13.2, Int.toNat_natCast, k118y, q1, T473, Int.cast_ofNat_Int]
        exact okc_s (sH_no h (by decide) (sqc_r _) (sqc_r _))
    · have un : stoV E S w = (9, S) := by
        unfold stoV
        rw [eY, if_neg hk, if_neg hky, if_pos c2, if_pos (by omega)]
      have s112 : RR (lkB tb512) (B512_80, [some (mR (some 80)), some (mL w), none, some (mI (fOp w)), some (mI ((bytN w : Nat) : Int)), some (mI (32661 : Int)), some (mI (fO w)), some (mI (y : Int)), none], [], σ1) = RR (lkB tb512) (B512_112, [some (mR (some 80)), some (mL w), none, some (mI (fOp w)), some (mI ((bytN w : Nat) : Int)), some (mI (32661 : Int)), some (mI (fO w)), some (mI (y : Int)), none], [], σ1) := by
        by_cases q1 : bytN w = 4
        · have q2 : ¬ fO w = 12 := fun z => G ⟨q1, z⟩
          simp only [e512_80, Option.getD_some, Option.bind_some, Option.toList_some, Option.toList_none, List.cons_append, List.nil_append, and_self, and_true, true_and, false_and, and_false, ite_self, not_true_eq_false, not_false_eq_true, reduceIte, Nat.reduceEqDiff, ab_I, ab_L, ab_R, ao_I, ao_L, ao_R, gL_sL, gI_sI, gR_sR, gI_sL, gI_sR, gL_sI, gL_sR, gR_sI, gR_sL, g0, g_118, Int.reduceLT, Int.reduceLE, nX, k118, c2, q1, q2, Int.cast_ofNat_Int]
        · have q1' : ¬ ((bytN w : Nat) : Int) = 4 := by omega
          simp only [e512_80, Option.getD_some, Option.bind_some, Option.toList_some, Option.toList_none, List.cons_append, List.nil_append, and_self, and_true, true_and, false_and, and_false, ite_self, not_true_eq_false, not_false_eq_true, reduceIte, Nat.reduceEqDiff, ab_I, ab_L, ab_R, ao_I, ao_L, ao_R, gL_sL, gI_sI, gR_sR, gI_sL, gI_sR, gL_sI, gL_sR, gR_sI, gR_sL, g0, g_118, Int.reduceLT, Int.reduceLE, nX, k118, c2, q1']
      rw [s112, un]
      simp only [e512_112, e512_118, e512_138, Option.getD_some, Option.bind_some, Option.toList_some, Option.toList_none, List.cons_append, List.nil_append, and_self, and_true, true_and, false_and, and_false, ite_self, not_true_eq_false, not_false_eq_true, reduceIte, Nat.reduceEqDiff, ab_I, ab_L, ab_R, ao_I, ao_L, ao_R, gL_sL, gI_sI, gR_sR, gI_sL, gI_sR, gL_sI, gL_sR, gR_sI, gR_sL, T473]
      exact okc_s (sH_no h (by decide) (sqc_r _) (sqc_r _))
  · by_cases c3 : plcF (rgV S (dR w)) = 0
    · have hm : mvs (rgV S (dR w)) := by
        unfold plcF at c3
        by_cases z : isMb (rgV S (dR w))
        · rw [if_pos z] at c3
          exact absurd c3 (by decide)
        · rw [if_neg z] at c3
          refine Classical.byContradiction fun q => ?_
          rw [if_pos q] at c3
          exact absurd c3 (by decide)
      have t3 := T503 (σ := σ1) (x := 32661) (y := fO w) (n := bytN w) (g := 3) (t := t) (E := E) bX (by rw [nX, h11]; exact hm) (by rw [nX, h11]; exact okX) (EO_sq h10 h4) (by rw [nX, h11]; exact canX.2.2.2.2.2) fo (by omega)
      simp only [nX, h11] at t3
      have s159 : RR (lkB tb512) (B512_80, [some (mR (some 80)), some (mL w), none, some (mI (fOp w)), some (mI ((bytN w : Nat) : Int)), some (mI (32661 : Int)), some (mI (fO w)), some (mI (y : Int)), none], [], σ1) = RR (lkB tb512) (B512_159, [some (mR (some 80)), some (mL w), none, some (mI (fOp w)), some (mI ((bytN w : Nat) : Int)), some (mI (32661 : Int)), some (mI (fO w)), some (mI (y : Int)), none], [mI (b2 (room E (rgV S (dR w)) (fO w) (bytN w)))], (if vk (rgV S (dR w)) = 3 then sI (sI σ1 80 103 (vw (rgV S (dR w)))) 80 102 (vo (rgV S (dR w)) + fO w + 128) else σ1)) := by
        have z1 : ∀ d : Decidable (fst (0 : Int) 0 = 0), @b2 (fst (0 : Int) 0 = 0) d = 1 := fun d => b2_yes rfl
        simp only [e512_80, e512_145, Option.getD_some, Option.bind_some, Option.toList_some, Option.toList_none, List.cons_append, List.nil_append, and_self, and_true, true_and, false_and, and_false, ite_self, not_true_eq_false, not_false_eq_true, reduceIte, Nat.reduceEqDiff, ab_I, ab_L, ab_R, ao_I, ao_L, ao_R, gL_sL, gI_sI, gR_sR, gI_sL, gI_sR, gL_sI, gL_sR, gR_sI, gR_sL, g0, g_118, Int.reduceLT, Int.reduceLE, nX, k118, c2, T510 bX, h11, c3, flt_0, z1, oneI, t3]
      rw [s159]
      by_cases c5 : room E (rgV S (dR w)) (fO w) (bytN w)
      · rw [b2_yes c5]
        by_cases k3 : vk (rgV S (dR w)) = 3
        · rw [if_pos k3]
          have hf := okV_f h2 h8 k3
          have hr : -128 ≤ vo (rgV S (dR w)) + fO w ∧ vo (rgV S (dR w)) + fO w ≤ -(bytN w : Int) := by
            have := c5
            unfold room at this
            rw [if_pos k3] at this
            exact this
          have eb : vo (rgV S (dR w)) + fO w + 128 = (((vo (rgV S (dR w)) + fO w + 128).toNat : Nat) : Int) := by omega
          have e3 : (vo (rgV S (dR w)) + fO w + 128) % 8 = 0 ↔ (vo (rgV S (dR w)) + fO w + 128).toNat % 8 = 0 := by omega
          have bb : (vo (rgV S (dR w)) + fO w + 128).toNat + bytN w ≤ 128 := by omega
          generalize eB : (vo (rgV S (dR w)) + fO w + 128).toNat = b at eb e3 bb
          generalize hρ : sI (sI σ1 80 103 (vw (rgV S (dR w)))) 80 102 (vo (rgV S (dR w)) + fO w + 128) = ρ
          have r1 : sqc ρ σ1 := by rw [← hρ]; exact sqc_pb
          have r2 : gI ρ 80 102 = (b : Int) := by rw [← hρ, gI_sI, if_pos ⟨rfl, rfl⟩, eb]
          have r3 : gI ρ 80 103 = vw (rgV S (dR w)) := by rw [← hρ, gI_sI, if_neg (by omega), gI_sI, if_pos ⟨rfl, rfl⟩]
          have r4 : aV ρ 32661 = (rgV S (dR w)) := by rw [← hρ, aV_sI (by omega), aV_sI (by omega), h11]
          have r5 : J0 ρ S := JSt_sq (sqc_t r1 h10) (by omega) hF.2 h1
          have r6 : gI ρ 118 32661 = 3 := by rw [q118, r4]; exact k3
          have r7 : aV ρ y = Y := by rw [← hρ, aV_sI (by omega), aV_sI (by omega), h12]
          have r8 : gI ρ 118 y = vk Y := by rw [q118, r7]
          have r9 : gI ρ 120 y = vw Y := by rw [q120, r7]
          have lp : 26 * (vw (rgV S (dR w))).toNat + 10 + b / 8 < 26 * sF S := by omega
          have t4 : MM 504 [mR (some 80), mI (b : Int)] ρ = some (some (mI ((26 * (vw (rgV S (dR w))).toNat + 10 + b / 8 : Nat) : Int)), ρ) := by
            have := T504 (σ := ρ) (b := b) (by omega) (by omega)
            rwa [r3] at this
          have hfr : gI ρ 80 103 = (((vw (rgV S (dR w))).toNat : Nat) : Int) := by omega
          have un : stoV E S w = if ¬ vk Y = 1 ∧ (¬ (bytN w = 8 ∧ b % 8 = 0) ∨ vk Y = 3 ∧ vw (rgV S (dR w)) < vw Y) then (7, S)
              else if bytN w = 8 ∧ b % 8 = 0 then (0, (sF S, upV (sV S) (26 * (vw (rgV S (dR w))).toNat + 10 + b / 8) Y, sB S, sH S))
              else (0, putB S (vw (rgV S (dR w))).toNat b (bytN w) (bytN w)) := by
            unfold stoV
            rw [eY, if_neg hk, if_neg hky, if_neg c2, if_neg (not_not_intro c3), if_neg (not_not_intro c5), eB]
            by_cases W : bytN w = 8 ∧ b % 8 = 0
            · have W2 : vk (rgV S (dR w)) = 3 ∧ bytN w = 8 ∧ (vo (rgV S (dR w)) + fO w + 128) % 8 = 0 := ⟨k3, W.1, e3.mpr W.2⟩
              rw [if_pos W2, if_pos W]
              by_cases A : ¬ vk Y = 1 ∧ (¬ (bytN w = 8 ∧ b % 8 = 0) ∨ vk Y = 3 ∧ vw (rgV S (dR w)) < vw Y)
              · rw [if_pos A, if_pos ⟨A.1, Or.inr (A.2.resolve_left (fun q => q W))⟩]
              · rw [if_neg A, if_neg (fun q => A ⟨q.1, Or.inr (q.2.resolve_left (fun z => z W2))⟩)]
            · have W2 : ¬ (vk (rgV S (dR w)) = 3 ∧ bytN w = 8 ∧ (vo (rgV S (dR w)) + fO w + 128) % 8 = 0) := fun q => W ⟨q.2.1, e3.mp q.2.2⟩
              rw [if_neg W2, if_neg W, if_pos k3]
              by_cases A : vk Y = 1
              · rw [if_neg (fun q => q.1 A), if_neg (fun q => q.1 A)]
              · rw [if_pos ⟨A, Or.inl W2⟩, if_pos ⟨A, Or.inl W⟩]
          have s201 : RR (lkB tb512) (B512_159, [some (mR (some 80)), some (mL w), none, some (mI (fOp w)), some (mI ((bytN w : Nat) : Int)), some (mI (32661 : Int)), some (mI (fO w)), some (mI (y : Int)), none], [mI 1], ρ) = RR (lkB tb512) (B512_201, [some (mR (some 80)), some (mL w), none, some (mI (fOp w)), some (mI ((bytN w : Nat) : Int)), some (mI (32661 : Int)), some (mI (fO w)), some (mI (y : Int)), none], [mI (b2 (bytN w = 8 ∧ b % 8 = 0))], ρ) := by
            by_cases a1 : bytN w = 8
            · have a1' : ((bytN w : Nat) : Int) = 8 := by omega
              by_cases a2 : b % 8 = 0
              · have a2' : ((b % 8 : Nat) : Int) = 0 := by omega
                rw [b2_yes ⟨a1, a2⟩]
                simp only [e512_159, e512_200, Option.getD_some, Option.bind_some, Option.toList_some, Option.toList_none, List.cons_append, List.nil_append, and_self, and_true, true_and, false_and, and_false, ite_self, not_true_eq_false, not_false_eq_true, reduceIte, Nat.reduceEqDiff, ab_I, ab_L, ab_R, ao_I, ao_L, ao_R, gL_sL, gI_sI, gR_sR, gI_sL, gI_sR, gL_sI, gL_sR, gR_sI, gR_sL, oneI, g_118, Int.reduceLT, Int.reduceLE, nX, r6, a1', r2, tmod8, a2']
              · have a2' : ¬ ((b % 8 : Nat) : Int) = 0 := by omega
                rw [b2_no (fun q => a2 q.2)]
                simp only [e512_159, e512_200, Option.getD_some, Option.bind_some, Option.toList_some, Option.toList_none, List.cons_append, List.nil_append, and_self, and_true, true_and, false_and, and_false, ite_self, not_true_eq_false, not_false_eq_true, reduceIte, Nat.reduceEqDiff, ab_I, ab_L, ab_R, ao_I, ao_L, ao_R, gL_sL, gI_sI, gR_sR, gI_sL, gI_sR, gL_sI, gL_sR, gR_sI, gR_sL, oneI, g_118, Int.reduceLT, Int.reduceLE, nX, r6, a1', r2, tmod8, a2']
            · have a1' : ¬ ((bytN w : Nat) : Int) = 8 := by omega
              rw [b2_no (fun q => a1 q.1)]
              simp only [e512_159, e512_200, Option.getD_some, Option.bind_some, Option.toList_some, Option.toList_none, List.cons_append, List.nil_append, and_self, and_true, true_and, false_and, and_false, ite_self, not_true_eq_false, not_false_eq_true, reduceIte, Nat.reduceEqDiff, ab_I, ab_L, ab_R, ao_I, ao_L, ao_R, gL_sL, gI_sI, gR_sR, gI_sL, gI_sR, gL_sI, gL_sR, gR_sI, gR_sL, oneI, g_118, Int.reduceLT, Int.reduceLE, nX, r6, a1']
          rw [s201]
          by_cases A : ¬ vk Y = 1 ∧ (¬ (bytN w = 8 ∧ b % 8 = 0) ∨ vk Y = 3 ∧ vw (rgV S (dR w)) < vw Y)
          · rw [if_pos A] at un
            rw [un]
            have s244 : RR (lkB tb512) (B512_201, [some (mR (some 80)), some (mL w), none, some (mI (fOp w)), some (mI ((bytN w : Nat) : Int)), some (mI (32661 : Int)), some (mI (fO w)), some (mI (y : Int)), none], [mI (b2 (bytN w = 8 ∧ b % 8 = 0))], ρ) = RR (lkB tb512) (B512_244, [some (mR (some 80)), some (mL w), none, some (mI (fOp w)), some (mI ((bytN w : Nat) : Int)), some (mI (32661 : Int)), some (mI (fO w)), some (mI (y : Int)), some (mI (b2 (bytN w = 8 ∧ b % 8 = 0)))], [], ρ) := by
              by_cases W : bytN w = 8 ∧ b % 8 = 0
              · obtain ⟨A1, A2⟩ := A
                have A3 := A2.resolve_left (fun q => q W)
                have A4 : ¬ vw Y ≤ gI ρ 80 103 := by omega
                have A5 : ¬ (3 : Int) = 1 := by decide
                simp only [e512_201, Option.getD_some, Option.bind_some, Option.toList_some, Option.toList_none, List.cons_append, List.nil_append, and_self, and_true, true_and, false_and, and_false, ite_self, not_true_eq_false, not_false_eq_true, reduceIte, Nat.reduceEqDiff, ab_I, ab_L, ab_R, ao_I, ao_L, ao_R, gL_sL, gI_sI, gR_sR, gI_sL, gI_sR, gL_sI, gL_sR, gR_sI, gR_sL, g_118, g_120, h13.1, h13.2, Int.toNat_natCast, r8, r9, A3.1, A5, b2_0', W, A4]
              · simp only [e512_201, Option.getD_some, Option.bind_some, Option.toList_some, Option.toList_none, List.cons_append, List.nil_append, and_self, and_true, true_and, false_and, and_false, ite_self, not_true_eq_false, not_false_eq_true, reduceIte, Nat.reduceEqDiff, ab_I, ab_L, ab_R, ao_I, ao_L, ao_R, gL_sL, gI_sI, gR_sR, gI_sL, gI_sR, gL_sI, gL_sR, gR_sI, gR_sL, g_118, h13.1, h13.2, Int.toNat_natCast, r8, A.1, b2_0', W]
            rw [s244]
            simp only [e512_244, e512_250, Option.getD_some, Option.bind_some, Option.toList_some, Option.toList_none, List.cons_append, List.nil_append, and_self, and_true, true_and, false_and, and_false, ite_self, not_true_eq_false, not_false_eq_true, reduceIte, Nat.reduceEqDiff, ab_I, ab_L, ab_R, ao_I, ao_L, ao_R, gL_sL, gI_sI, gR_sR, gI_sL, gI_sR, gL_sI, gL_sR, gR_sI, gR_sL, T473]
            exact okc_s (sH_no h (by decide) r1 (sqc_r _))
          · rw [if_neg A] at un
            have s251 : RR (lkB tb512) (B512_201, [some (mR (some 80)), some (mL w), none, some (mI (fOp w)), some (mI ((bytN w : Nat) : Int)), some (mI (32661 : Int)), some (mI (fO w)), some (mI (y : Int)), none], [mI (b2 (bytN w = 8 ∧ b % 8 = 0))], ρ) = RR (lkB tb512) (B512_251, [some (mR (some 80)), some (mL w), none, some (mI (fOp w)), some (mI ((bytN w : Nat) : Int)), some (mI (32661 : Int)), some (mI (fO w)), some (mI (y : Int)), some (mI (b2 (bytN w = 8 ∧ b % 8 = 0)))], [], ρ) := by
              by_cases A1 : vk Y = 1
              · simp only [e512_201, Option.getD_some, Option.bind_some, Option.toList_some, Option.toList_none, List.cons_append, List.nil_append, and_self, and_true, true_and, false_and, and_false, ite_self, not_true_eq_false, not_false_eq_true, reduceIte, Nat.reduceEqDiff, ab_I, ab_L, ab_R, ao_I, ao_L, ao_R, gL_sL, gI_sI, gR_sR, gI_sL, gI_sR, gL_sI, gL_sR, gR_sI, gR_sL, g_118, h13.1, h13.2, Int.toNat_natCast, r8, A1]
              · have W : bytN w = 8 ∧ b % 8 = 0 := Classical.byContradiction fun z => A ⟨A1, Or.inl z⟩
                by_cases A2 : vk Y = 3
                · have A4 : vw Y ≤ gI ρ 80 103 := by
                    have : ¬ vw (rgV S (dR w)) < vw Y := fun z => A ⟨A1, Or.inr ⟨A2, z⟩⟩
                    omega
                  have A5 : ¬ (3 : Int) = 1 := by decide
                  simp only [e512_201, Option.getD_some, Option.bind_some, Option.toList_some, Option.toList_none, List.cons_append, List.nil_append, and_self, and_true, true_and, false_and, and_false, ite_self, not_true_eq_false, not_false_eq_true, reduceIte, Nat.reduceEqDiff, ab_I, ab_L, ab_R, ao_I, ao_L, ao_R, gL_sL, gI_sI, gR_sR, gI_sL, gI_sR, gL_sI, gL_sR, gR_sI, gR_sL, g_118, g_120, h13.1, h13.2, Int.toNat_natCast, r8, r9, A2, A5, b2_0', W, A4]
                · simp only [e512_201, Option.getD_some, Option.bind_some, Option.toList_some, Option.toList_none, List.cons_append, List.nil_append, and_self, and_true, true_and, false_and, and_false, ite_self, not_true_eq_false, not_false_eq_true, reduceIte, Nat.reduceEqDiff, ab_I, ab_L, ab_R, ao_I, ao_L, ao_R, gL_sL, gI_sI, gR_sR, gI_sL, gI_sR, gL_sI, gL_sR, gR_sI, gR_sL, g_118, g_120, h13.1, h13.2, Int.toNat_natCast, r8, A1, A2, b2_0', W]
            rw [s251]
            by_cases W : bytN w = 8 ∧ b % 8 = 0
            · rw [if_pos W] at un
              rw [un, b2_yes W]
              generalize hp : 26 * (vw (rgV S (dR w))).toNat + 10 + b / 8 = p at lp t4 ⊢
              have ip : inB (p : Int) := ⟨by omega, by omega⟩
              have tv := T430 (σ := ρ) h13 ip (by rw [Int.toNat_natCast, r7]; omega)
              simp only [Int.toNat_natCast, r7] at tv
              simp only [e512_251, e512_267, e512_270, e512_290, Option.getD_some, Option.bind_some, Option.toList_some, Option.toList_none, List.cons_append, List.nil_append, and_self, and_true, true_and, false_and, and_false, ite_self, not_true_eq_false, not_false_eq_true, reduceIte, Nat.reduceEqDiff, ab_I, ab_L, ab_R, ao_I, ao_L, ao_R, gL_sL, gI_sI, gR_sR, gI_sL, gI_sR, gL_sI, gL_sR, gR_sI, gR_sL, oneI, r2, t4, tv]
              refine okc_s ?_
              have e85 : sI σ 80 85 t = σ := by rw [← h6]; exact sI_eta _ _ _
              refine jpo_w h5 h1 hF.2 lp rfl ?_
              rw [e85]
              exact sqc_wV (sqc_t r1 h10)
            · rw [if_neg W] at un
              rw [un, b2_no W]
              have t7 := L507 (σ := ρ) (n := bytN w) (b := b) (f := (vw (rgV S (dR w))).toNat) (Q := fun m => putB S (vw (rgV S (dR w))).toNat b m m) hF.2 (by show (vw (rgV S (dR w))).toNat < sF S; omega) r2 hfr bb (fun m hm => one_a h3 (by omega)) (fun m _ => can_put h3) (by show J0 ρ (putB S (vw (rgV S (dR w))).toNat b 0 0); rw [putB_0]; exact r5)
              simp only [e512_251, Option.getD_some, Option.bind_some, Option.toList_some, Option.toList_none, List.cons_append, List.nil_append, and_self, and_true, true_and, false_and, and_false, ite_self, not_true_eq_false, not_false_eq_true, reduceIte, Nat.reduceEqDiff, ab_I, ab_L, ab_R, ao_I, ao_L, ao_R, gL_sL, gI_sI, gR_sR, gI_sL, gI_sR, gL_sI, gL_sR, gR_sI, gR_sL, g_118, Int.reduceLT, Int.reduceLE, nX, r6]
              refine okc_b t7 fun τ q => ?_
              simp only [Option.toList_none, List.nil_append, e512_290]
              refine okc_s ?_
              obtain ⟨q1, q2, q3, q4⟩ := q
              have s1 := sqc_t r1 h10
              have jqt : jq τ ρ := ⟨fun k s z => q2 k s (fun y => z (Or.inl ⟨y.1, Or.inl y.2⟩)), fun k s z => q3 k s (fun y => z ⟨y.1, Or.inl y.2⟩), q4⟩
              refine ⟨jq_t jqt (jq_sq s1), ?_, fun _ => ⟨q1, ?_, ?_, ?_⟩⟩
              · rw [q2 _ _ (by omega), sqc_I s1 (by omega) (by omega), h5]
              · rw [q2 _ _ (by omega), sqc_I s1 (by omega) (by omega)]
              · rw [q2 _ _ (by omega), sqc_I s1 (by omega) (by omega)]
              · rw [q2 _ _ (by omega), sqc_I s1 (by omega) (by omega), h6]
        · rw [if_neg k3]
          have un : stoV E S w = if ¬ vk Y = 1 then (7, S) else (0, S) := by
            unfold stoV
            rw [eY, if_neg hk, if_neg hky, if_neg c2, if_neg (not_not_intro c3), if_neg (not_not_intro c5)]
            by_cases A : vk Y = 1
            · rw [if_neg (fun q => q.1 A), if_neg (fun q => k3 q.1), if_neg k3, if_neg (not_not_intro A)]
            · rw [if_pos ⟨A, Or.inl (fun q => k3 q.1)⟩, if_pos A]
          have s201 : RR (lkB tb512) (B512_159, [some (mR (some 80)), some (mL w), none, some (mI (fOp w)), some (mI ((bytN w : Nat) : Int)), some (mI (32661 : Int)), some (mI (fO w)), some (mI (y : Int)), none], [mI 1], σ1) = RR (lkB tb512) (B512_201, [some (mR (some 80)), some (mL w), none, some (mI (fOp w)), some (mI ((bytN w : Nat) : Int)), some (mI (32661 : Int)), some (mI (fO w)), some (mI (y : Int)), none], [mI 0], σ1) := by
            simp only [e512_159, e512_200, Option.getD_some, Option.bind_some, Option.toList_some, Option.toList_none, List.cons_append, List.nil_append, and_self, and_true, true_and, false_and, and_false, ite_self, not_true_eq_false, not_false_eq_true, reduceIte, Nat.reduceEqDiff, ab_I, ab_L, ab_R, ao_I, ao_L, ao_R, gL_sL, gI_sI, gR_sR, gI_sL, gI_sR, gL_sI, gL_sR, gR_sI, gR_sL, oneI, g_118, Int.reduceLT, Int.reduceLE, nX, k118, k3]
          rw [s201, un]
          by_cases A : vk Y = 1
          · rw [if_neg (not_not_intro A)]
            simp only [e512_201, e512_251, e512_290, Option.getD_some, Option.bind_some, Option.toList_some, Option.toList_none, List.cons_append, List.nil_append, and_self, and_true, true_and, false_and, and_false, ite_self, not_true_eq_false, not_false_eq_true, reduceIte, Nat.reduceEqDiff, ab_I, ab_L, ab_R, ao_I, ao_L, ao_R, gL_sL, gI_sI, gR_sR, gI_sL, gI_sR, gL_sI, gL_sR, gR_sI, gR_sL, g_118, Int.reduceLT, Int.reduceLE, nX, h13.1, h13.2, Int.toNat_natCast, k118y, A, k118, k3]
            exact okc_s (sH_ok h (sqc_r _) (sqc_r _))
          · rw [if_pos A]
            simp only [e512_201, e512_244, e512_250, Option.getD_some, Option.bind_some, Option.toList_some, Option.toList_none, List.cons_append, List.nil_append, and_self, and_true, true_and, false_and, and_false, ite_self, not_true_eq_false, not_false_eq_true, reduceIte, Nat.reduceEqDiff, ab_I, ab_L, ab_R, ao_I, ao_L, ao_R, gL_sL, gI_sI, gR_sR, gI_sL, gI_sR, gL_sI, gL_sR, gR_sI, gR_sL, g_118, h13.1, h13.2, Int.toNat_natCast, k118y, A, T473]
            exact okc_s (sH_no h (by decide) (sqc_r _) (sqc_r _))
      · have un : stoV E S w = (5, S) := by
          unfold stoV
          rw [eY, if_neg hk, if_neg hky, if_neg c2, if_neg (not_not_intro c3), if_pos c5]
        rw [b2_no c5, un]
        generalize hρ : (if vk (rgV S (dR w)) = 3 then sI (sI σ1 80 103 (vw (rgV S (dR w)))) 80 102 (vo (rgV S (dR w)) + fO w + 128) else σ1) = ρ
        have r1 : sqc ρ σ1 := by
          rw [← hρ]
          split
          · exact sqc_pb
          · exact sqc_r _
        simp only [e512_159, e512_167, Option.getD_some, Option.bind_some, Option.toList_some, Option.toList_none, List.cons_append, List.nil_append, and_self, and_true, true_and, false_and, and_false, ite_self, not_true_eq_false, not_false_eq_true, reduceIte, Nat.reduceEqDiff, ab_I, ab_L, ab_R, ao_I, ao_L, ao_R, gL_sL, gI_sI, gR_sR, gI_sL, gI_sR, gL_sI, gL_sR, gR_sI, gR_sL, T473]
        exact okc_s (sH_no h (by decide) r1 (sqc_r _))
    · have un : stoV E S w = (plcF (rgV S (dR w)), S) := by
        unfold stoV
        rw [eY, if_neg hk, if_neg hky, if_neg c2, if_pos c3]
      have z1 : ∀ d : Decidable (fst (0 : Int) (plcF (rgV S (dR w))) = 0), @b2 (fst (0 : Int) (plcF (rgV S (dR w))) = 0) d = 0 := fun d => b2_no (by rw [fst0]; exact c3)
      rw [un]
      simp only [e512_80, e512_145, Option.getD_some, Option.bind_some, Option.toList_some, Option.toList_none, List.cons_append, List.nil_append, and_self, and_true, true_and, false_and, and_false, ite_self, not_true_eq_false, not_false_eq_true, reduceIte, Nat.reduceEqDiff, ab_I, ab_L, ab_R, ao_I, ao_L, ao_R, gL_sL, gI_sI, gR_sR, gI_sL, gI_sR, gL_sI, gL_sR, gR_sI, gR_sL, g0, g_118, Int.reduceLT, Int.reduceLE, nX, k118, c2, T510 bX, h11, z1]
      exact okc_s (sH_no h c3 (sqc_r _) (sqc_r _))
theorem T512 (hJ : J0 σ S) (ho : okS E t S) (hc : canS S) (hE : EO σ E) (hw : okMem w) (hl : fL w = 2 ∨ fL w = 3 ∧ fM w = 96) (h0 : gI σ 80 90 = 0) (ht : gI σ 80 85 = t) : okc (MM 512 [mR (some 80), mL w, mI (fOp w), mI ((bytN w : Nat) : Int)] σ) none (fun τ => jpo σ τ (stoV E S w).1 (stoV E S w).2 (gI σ 80 88) (gI σ 80 89) t) := by
  have hF := ho.1
  have f := fld_rng w
  have f1 : 0 ≤ fD w := f.2.1.1
  have f2 : 0 ≤ fS w := f.2.2.1.1
  have hd : fD w ≤ 10 ∧ (fL w = 3 → fS w ≤ 10) := by
    have := hw
    unfold okMem at this
    rcases hl with hl | hl
    · rw [if_neg (by omega), if_pos hl] at this
      exact ⟨this.2.1, fun z => by omega⟩
    · rw [if_neg (by omega), if_neg (by omega), if_pos hl.2] at this
      exact ⟨this.1, fun _ => this.2.1⟩
  have d10 : dR w ≤ 10 := by unfold dR; omega
  have t1 := T492 (σ := σ) (r := fD w) ⟨f1, hd.1⟩ (by rw [hJ.1]; omega)
  have ip := plc_b hJ.1 hF (r := fD w) ⟨f1, hd.1⟩
  have vx := at_v hJ hF (r := fD w) ⟨f1, hd.1⟩
  generalize plc (gI σ 123 0) (fD w) = px at t1 ip vx
  generalize hσ1 : mk10 σ (fD w) = σ1 at t1 vx
  have vx : aV σ1 px = (rgV S (dR w)) := vx
  have r1 : sqc σ1 σ := by rw [← hσ1]; exact mk_sq
  have okX := okV_r ho d10
  have bK : inB 32661 := by decide
  have tk := T430 (σ := flt σ1 (wntS (rgV S (dR w)))) ip bK (by rw [Int.toNat_natCast, aV_flt, vx]; have := okX.1; omega)
  rw [Int.toNat_natCast, aV_flt, vx, wrV_flt] at tk
  generalize hσ2 : wrV σ1 (32661 : Int).toNat (rgV S (dR w)) = σ2 at tk
  have r2 : sqc σ2 σ := by rw [← hσ2]; exact sqc_t (sqc_w (by decide)) r1
  have v2 : aV σ2 32661 = (rgV S (dR w)) := by rw [← hσ2]; exact aV_same
  have g0 : gI σ2 80 90 = 0 := (sqc_I r2 (by omega) (by omega)).trans h0
  have s31 : MM 512 [mR (some 80), mL w, mI (fOp w), mI ((bytN w : Nat) : Int)] σ = RR (lkB tb512) (B512_31, [some (mR (some 80)), some (mL w), none, some (mI (fOp w)), some (mI ((bytN w : Nat) : Int)), some (mI (px : Int)), some (mI (fO w)), none, none], [], flt σ2 (wntS (rgV S (dR w)))) := by
    simp only [M512, e512_0, e512_5, e512_8, e512_14, e512_22, Option.getD_some, Option.bind_some, Option.toList_some, Option.toList_none, List.cons_append, List.nil_append, and_self, and_true, true_and, false_and, and_false, ite_self, not_true_eq_false, not_false_eq_true, reduceIte, Nat.reduceEqDiff, ab_I, ab_L, ab_R, ao_I, ao_L, ao_R, gL_sL, gI_sI, gR_sR, gI_sL, gI_sR, gL_sI, gL_sR, gR_sI, gR_sL, T333, T335, t1, T494 ip, Int.toNat_natCast, vx, tk]
  rw [s31]
  have key : ∀ (y : Nat) (σ3 : MS), sH4 S E w t σ σ3 y → okc (RR (lkB tb512) (B512_80, [some (mR (some 80)), some (mL w), none, some (mI (fOp w)), some (mI ((bytN w : Nat) : Int)), some (mI (32661 : Int)), some (mI (fO w)), some (mI (y : Int)), none], [], flt σ3 (fst (wntS (rgV S (dR w))) (wntS (if fL w = 3 then rgV S (sRr w) else numV (cstN (iL (fI w)))))))) none (fun τ => jpo σ τ (stoV E S w).1 (stoV E S w).2 (gI σ 80 88) (gI σ 80 89) t) := by
    intro y σ3 H
    have H0 : gI σ3 80 90 = 0 := by
      obtain ⟨-, -, -, ⟨z, -⟩⟩ := H
      exact (sqc_I z (by omega) (by omega)).trans h0
    have bad : stoV E S w = (3, S) → fst (wntS (rgV S (dR w))) (wntS (if fL w = 3 then rgV S (sRr w) else numV (cstN (iL (fI w))))) = 3 → okc (RR (lkB tb512) (B512_80, [some (mR (some 80)), some (mL w), none, some (mI (fOp w)), some (mI ((bytN w : Nat) : Int)), some (mI (32661 : Int)), some (mI (fO w)), some (mI (y : Int)), none], [], flt σ3 (fst (wntS (rgV S (dR w))) (wntS (if fL w = 3 then rgV S (sRr w) else numV (cstN (iL (fI w)))))))) none (fun τ => jpo σ τ (stoV E S w).1 (stoV E S w).2 (gI σ 80 88) (gI σ 80 89) t) := fun u1 u2 => by
      have g : ¬ gI (flt σ3 3) 80 90 = 0 := by rw [fl_g, H0, fst0]; decide
      rw [u1, u2]
      simp only [e512_80, Option.getD_some, Option.bind_some, Option.toList_some, Option.toList_none, List.cons_append, List.nil_append, and_self, and_true, true_and, false_and, and_false, ite_self, not_true_eq_false, not_false_eq_true, reduceIte, Nat.reduceEqDiff, ab_I, ab_L, ab_R, ao_I, ao_L, ao_R, gL_sL, gI_sI, gR_sR, gI_sL, gI_sR, gL_sI, gL_sR, gR_sI, gR_sL, g]
      exact okc_s (sH_no H (by decide) (sqc_r _) (sqc_r _))
    by_cases k : vk (rgV S (dR w)) = 0
    · refine bad ?_ ?_
      · unfold stoV
        rw [if_pos k]
      · rw [show wntS (rgV S (dR w)) = 3 from if_pos k]
        rfl
    · have e1 : wntS (rgV S (dR w)) = 0 := if_neg k
      by_cases ky : vk (if fL w = 3 then rgV S (sRr w) else numV (cstN (iL (fI w)))) = 0
      · refine bad ?_ ?_
        · unfold stoV
          rw [if_neg k]
          exact if_pos ky
        · rw [e1, fst0]
          exact if_pos ky
      · have e2 : wntS (if fL w = 3 then rgV S (sRr w) else numV (cstN (iL (fI w)))) = 0 := if_neg ky
        rw [e1, e2, fst0, flt_0]
        exact L512 H k ky
  by_cases l3 : fL w = 3
  · have hs := hd.2 l3
    have s10 : sRr w ≤ 10 := by unfold sRr; omega
    have eY : (if fL w = 3 then rgV S (sRr w) else numV (cstN (iL (fI w)))) = rgV S (sRr w) := if_pos l3
    have okY := okV_r ho s10
    have J2 : J0 σ2 S := JSt_sq r2 (by omega) hF.2 hJ
    have t9 := T492 (σ := flt σ2 (wntS (rgV S (dR w)))) (r := fS w) ⟨f2, hs⟩ (by rw [fl_o (by omega), J2.1]; omega)
    rw [fl_o (by omega), mk_flt] at t9
    have iy := plc_b J2.1 hF (r := fS w) ⟨f2, hs⟩
    have vy := at_v J2 hF (r := fS w) ⟨f2, hs⟩
    have n61 : ¬ (plc (gI σ2 123 0) (fS w)) = 32661 := by
      by_cases e : fS w = 10
      · rw [e, plc_10]
        decide
      · rw [plc_9 J2.1 hF.1 f2 (by omega)]
        omega
    generalize plc (gI σ2 123 0) (fS w) = y at t9 iy vy n61
    have v3 : aV (mk10 σ2 (fS w)) 32661 = (rgV S (dR w)) := by rw [mk_V, if_neg (by omega), v2]
    generalize hσ3 : mk10 σ2 (fS w) = σ3 at t9 vy v3
    have r3 : sqc σ3 σ := by rw [← hσ3]; exact sqc_t mk_sq r2
    have s80 : RR (lkB tb512) (B512_31, [some (mR (some 80)), some (mL w), none, some (mI (fOp w)), some (mI ((bytN w : Nat) : Int)), some (mI (px : Int)), some (mI (fO w)), none, none], [], flt σ2 (wntS (rgV S (dR w)))) = RR (lkB tb512) (B512_80, [some (mR (some 80)), some (mL w), none, some (mI (fOp w)), some (mI ((bytN w : Nat) : Int)), some (mI (32661 : Int)), some (mI (fO w)), some (mI (y : Int)), none], [], flt σ3 (fst (wntS (rgV S (dR w))) (wntS (if fL w = 3 then rgV S (sRr w) else numV (cstN (iL (fI w))))))) := by
      simp only [e512_31, e512_54, e512_57, e512_65, Option.getD_some, Option.bind_some, Option.toList_some, Option.toList_none, List.cons_append, List.nil_append, and_self, and_true, true_and, false_and, and_false, ite_self, not_true_eq_false, not_false_eq_true, reduceIte, Nat.reduceEqDiff, ab_I, ab_L, ab_R, ao_I, ao_L, ao_R, gL_sL, gI_sI, gR_sR, gI_sL, gI_sR, gL_sI, gL_sR, gR_sI, gR_sL, m7, l3, T334, t9, T494 iy, Int.toNat_natCast, aV_flt, vy, flt_flt]
    rw [s80]
    exact key y σ3 ⟨⟨hJ, ho, hc, hE⟩, ⟨h0, ht⟩, ⟨d10, by rw [eY]; exact okY.1⟩, ⟨r3, v3, by rw [eY]; exact vy, iy⟩⟩
  · have eY : (if fL w = 3 then rgV S (sRr w) else numV (cstN (iL (fI w)))) = numV (cstN (iL (fI w))) := if_neg l3
    have kY : vk (if fL w = 3 then rgV S (sRr w) else numV (cstN (iL (fI w)))) = 1 := by rw [eY]; rfl
    have e0 : fst (wntS (rgV S (dR w))) (wntS (if fL w = 3 then rgV S (sRr w) else numV (cstN (iL (fI w))))) = wntS (rgV S (dR w)) := by
      have : wntS (if fL w = 3 then rgV S (sRr w) else numV (cstN (iL (fI w)))) = 0 := if_neg (by omega)
      rw [this]
      unfold fst
      split
      · rename_i z; exact z.symm
      · rfl
    have bY : inB 32657 := by decide
    have s80 : RR (lkB tb512) (B512_31, [some (mR (some 80)), some (mL w), none, some (mI (fOp w)), some (mI ((bytN w : Nat) : Int)), some (mI (px : Int)), some (mI (fO w)), none, none], [], flt σ2 (wntS (rgV S (dR w)))) = RR (lkB tb512) (B512_80, [some (mR (some 80)), some (mL w), none, some (mI (fOp w)), some (mI ((bytN w : Nat) : Int)), some (mI (32661 : Int)), some (mI (fO w)), some (mI ((32657 : Nat) : Int)), none], [], flt (wrV σ2 32657 (numV (cstN (iL (fI w))))) (fst (wntS (rgV S (dR w))) (wntS (if fL w = 3 then rgV S (sRr w) else numV (cstN (iL (fI w))))))) := by
      rw [e0, ← wrV_flt]
      simp only [e512_31, e512_76, Option.getD_some, Option.bind_some, Option.toList_some, Option.toList_none, List.cons_append, List.nil_append, and_self, and_true, true_and, false_and, and_false, ite_self, not_true_eq_false, not_false_eq_true, reduceIte, Nat.reduceEqDiff, ab_I, ab_L, ab_R, ao_I, ao_L, ao_R, gL_sL, gI_sI, gR_sR, gI_sL, gI_sR, gL_sI, gL_sR, gR_sI, gR_sL, m7, l3, T336, T433 bY.1 bY.2]
      rfl
    rw [s80]
    refine key 32657 _ ⟨⟨hJ, ho, hc, hE⟩, ⟨h0, ht⟩, ⟨d10, by omega⟩, ⟨sqc_t (sqc_w (by decide)) r2, ?_, ?_, bY⟩⟩
    · rw [aV_ne (by decide), v2]
    · rw [aV_same, eY]
end STO
