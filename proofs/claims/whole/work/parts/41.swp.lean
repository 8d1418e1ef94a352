/-! ===== the reference's judge: C3, DB; memory ===== -/
section SWP
variable {w : B64} {S : ST} {E : EV} {t : Int} {σ σ1 : MS} {y z : Nat}
def wH (S : ST) (E : EV) (w : B64) (t : Int) (σ σ1 : MS) (y z : Nat) : Prop := (J0 σ S ∧ okS E t S ∧ canS S ∧ EO σ E) ∧ (gI σ 80 90 = 0 ∧ gI σ 80 85 = t) ∧ (dR w ≤ 10 ∧ sRr w ≤ 10 ∧ z = 26 * (sF S - 1) ∧ (fI w % 2 = 1 → ¬ fI w = 241 → sRr w ≤ 9 ∧ y = 26 * (sF S - 1) + sRr w)) ∧ (sqc σ1 σ ∧ aV σ1 32661 = (rgV S (dR w)) ∧ aV σ1 y = (rgV S (sRr w)) ∧ inB (y : Int))
theorem wH_no (h : wH S E w t σ σ1 y z) {f : Int} {S' : ST} {τ ρ : MS} (hf : ¬ f = 0) (hr : sqc ρ σ1) (hq : sqc τ (flt ρ f)) : jpo σ τ f S' (gI σ 80 88) (gI σ 80 89) t := by
  obtain ⟨-, ⟨h5, -⟩, -, ⟨h10, -, -, -⟩⟩ := h
  exact jpo_f hf h5 (sqc_t hq (sqc_flt (sqc_t hr h10)))
/-- the register that is answered -/
theorem L513e (h : wH S E w t σ σ1 y z) {S1 : ST} {ρ : MS} (j1 : J0 ρ S1) (f1 : sF S1 = sF S) (jr : jq ρ σ) (g : gI ρ 80 90 = 0 ∧ gI ρ 80 88 = gI σ 80 88 ∧ gI ρ 80 89 = gI σ 80 89 ∧ gI ρ 80 85 = t) (hv : swpV E S w = (0, if fI w = 241 then wV S1 0 (numV (wideN (bytN w))) else if fI w % 2 = 1 then wV S1 (sRr w) (numV (wideN (bytN w))) else S1)) : okc (RR (lkB tb513) (B513_251, [some (mR (some 80)), some (mL w), none, some (mI ((bytN w : Nat) : Int)), some (mI (32661 : Int)), some (mI (fI w)), some (mI (z : Int)), some (mI (y : Int))], [], ρ)) none (fun τ => jpo σ τ (swpV E S w).1 (swpV E S w).2 (gI σ 80 88) (gI σ 80 89) t) := by
  have h' := h
  obtain ⟨⟨h1, h2, h3, h4⟩, ⟨h5, h6⟩, ⟨h7, h8, h9, h9b⟩, ⟨h10, h11, h12, h13⟩⟩ := h'
  have hF := h2.1
  have bn := bytN_c w
  have fin : ∀ (k r : Nat), k = 26 * (sF S - 1) + r → k < 104 → jpo σ (wrV ρ k (numV (wideN (bytN w)))) 0 (wV S1 r (numV (wideN (bytN w)))) (gI σ 80 88) (gI σ 80 89) t := fun k r e l => by
    refine ⟨jq_t (jq_w (Or.inl l)) jr, by rw [gW80]; exact g.1, fun _ => ⟨?_, by rw [gW80]; exact g.2.1, by rw [gW80]; exact g.2.2.1, by rw [gW80]; exact g.2.2.2⟩⟩
    have := J0_wV (k := k) (v := numV (wideN (bytN w))) (by omega) j1
    rw [e, ← f1] at this
    rw [e, ← f1]
    exact this
  rw [hv]
  by_cases c : fI w = 241
  · rw [if_pos c]
    have iz : inB (z : Int) := ⟨by omega, by omega⟩
    simp only [e513_251, e513_266, e513_284, Option.getD_some, Option.bind_some, Option.toList_some, Option.toList_none, List.cons_append, List.nil_append, and_self, and_true, true_and, false_and, and_false, ite_self, not_true_eq_false, not_false_eq_true, reduceIte, Nat.reduceEqDiff, ab_I, ab_L, ab_R, ao_I, ao_L, ao_R, gL_sL, gI_sI, gR_sR, gI_sL, gI_sR, gL_sI, gL_sR, gR_sI, gR_sL, c, T437 iz.1 iz.2 (show bytN w ≤ 8 by omega), Int.toNat_natCast]
    exact okc_s (fin z 0 (by omega) (by omega))
  · rw [if_neg c]
    by_cases d : fI w % 2 = 1
    · rw [if_pos d]
      obtain ⟨e1, e2⟩ := h9b d c
      simp only [e513_251, e513_284, Option.getD_some, Option.bind_some, Option.toList_some, Option.toList_none, List.cons_append, List.nil_append, and_self, and_true, true_and, false_and, and_false, ite_self, not_true_eq_false, not_false_eq_true, reduceIte, Nat.reduceEqDiff, ab_I, ab_L, ab_R, ao_I, ao_L, ao_R, gL_sL, gI_sI, gR_sR, gI_sL, gI_sR, gL_sI, gL_sR, gR_sI, gR_sL, c, iAnd1, d, T437 h13.1 h13.2 (show bytN w ≤ 8 by omega), Int.toNat_natCast]
      exact okc_s (fin y (sRr w) e2 (by omega))
    · rw [if_neg d]
      simp only [e513_251, e513_284, Option.getD_some, Option.bind_some, Option.toList_some, Option.toList_none, List.cons_append, List.nil_append, and_self, and_true, true_and, false_and, and_false, ite_self, not_true_eq_false, not_false_eq_true, reduceIte, Nat.reduceEqDiff, ab_I, ab_L, ab_R, ao_I, ao_L, ao_R, gL_sL, gI_sI, gR_sR, gI_sL, gI_sR, gL_sI, gL_sR, gR_sI, gR_sL, c, iAnd1, d]
      exact okc_s ⟨jr, g.1, fun _ => ⟨j1, g.2.1, g.2.2.1, g.2.2.2⟩⟩
set_option maxHeartbeats 2000000 in
theorem L513 (h : wH S E w t σ σ1 y z) (hk : ¬ vk (rgV S (dR w)) = 0) (hky : ¬ vk (rgV S (sRr w)) = 0) (hkz : fI w = 241 → ¬ vk (rgV S 0) = 0) : okc (RR (lkB tb513) (B513_73, [some (mR (some 80)), some (mL w), none, some (mI ((bytN w : Nat) : Int)), some (mI (32661 : Int)), some (mI (fI w)), some (mI (z : Int)), some (mI (y : Int))], [], σ1)) none (fun τ => jpo σ τ (swpV E S w).1 (swpV E S w).2 (gI σ 80 88) (gI σ 80 89) t) := by
  have h' := h
  obtain ⟨⟨h1, h2, h3, h4⟩, ⟨h5, h6⟩, ⟨h7, h8, h9, h9b⟩, ⟨h10, h11, h12, h13⟩⟩ := h'
  have hF := h2.1
  have bX : inB 32661 := by decide
  have nX : (32661 : Int).toNat = 32661 := rfl
  have iz : inB (z : Int) := ⟨by omega, by omega⟩
  have g0 : gI σ1 80 90 = 0 := (sqc_I h10 (by omega) (by omega)).trans h5
  have okX := okV_r h2 h7
  have canX := can_r h3 hF.1 h7
  have fo := fO_r w
  have bn := bytN_c w
  have k118 : gI σ1 118 32661 = vk (rgV S (dR w)) := by rw [q118, h11]
  have J1 : J0 σ1 S := JSt_sq h10 (by omega) hF.2 h1
  have vz : ∀ ρ : MS, sqc ρ σ1 → gI ρ 118 z = vk (rgV S 0) := fun ρ r => by
    have e : aV ρ z = (rgV S 0) := by
      rw [sqc_V r (by omega), J0_v J1 (by omega), h9]
      rfl
    rw [q118, e]
  have n3 : ¬ (vk (rgV S (dR w)) = 0 ∨ fI w = 241 ∧ vk (rgV S 0) = 0 ∨ vk (rgV S (sRr w)) = 0) := fun q => by
    rcases q with q | q | q
    · exact hk q
    · exact hkz q.1 q.2
    · exact hky q
  have bad : ∀ (f : Int) (ρ : MS), ¬ f = 0 → sqc ρ σ1 → swpV E S w = (f, S) → okc (RR (lkB tb513) (B513_227, [some (mR (some 80)), some (mL w), none, some (mI ((bytN w : Nat) : Int)), some (mI (32661 : Int)), some (mI (fI w)), some (mI (z : Int)), some (mI (y : Int))], [], flt ρ f)) none (fun τ => jpo σ τ (swpV E S w).1 (swpV E S w).2 (gI σ 80 88) (gI σ 80 89) t) := fun f ρ hf hr hu => by
    have g : ¬ gI (flt ρ f) 80 90 = 0 := by rw [fl_g, sqc_I hr (by omega) (by omega), g0, fst0]; exact hf
    rw [hu]
    simp only [e513_227, Option.getD_some, Option.bind_some, Option.toList_some, Option.toList_none, List.cons_append, List.nil_append, and_self, and_true, true_and, false_and, and_false, ite_self, not_true_eq_false, not_false_eq_true, reduceIte, Nat.reduceEqDiff, ab_I, ab_L, ab_R, ao_I, ao_L, ao_R, gL_sL, gI_sI, gR_sR, gI_sL, gI_sR, gL_sI, gL_sR, gR_sI, gR_sL, g]
    exact okc_s (wH_no h hf hr (sqc_r _))
  by_cases c1 : isMb (rgV S (dR w))
  · have un : swpV E S w = (14, S) := by
      unfold swpV
      rw [if_neg n3, if_pos c1]
    have s : RR (lkB tb513) (B513_73, [some (mR (some 80)), some (mL w), none, some (mI ((bytN w : Nat) : Int)), some (mI (32661 : Int)), some (mI (fI w)), some (mI (z : Int)), some (mI (y : Int))], [], σ1) = RR (lkB tb513) (B513_227, [some (mR (some 80)), some (mL w), none, some (mI ((bytN w : Nat) : Int)), some (mI (32661 : Int)), some (mI (fI w)), some (mI (z : Int)), some (mI (y : Int))], [], flt σ1 14) := by
      simp only [e513_73, e513_87, e513_96, Option.getD_some, Option.bind_some, Option.toList_some, Option.toList_none, List.cons_append, List.nil_append, and_self, and_true, true_and, false_and, and_false, ite_self, not_true_eq_false, not_false_eq_true, reduceIte, Nat.reduceEqDiff, ab_I, ab_L, ab_R, ao_I, ao_L, ao_R, gL_sL, gI_sI, gR_sR, gI_sL, gI_sR, gL_sI, gL_sR, gR_sI, gR_sL, g0, T493 bX, nX, h11, b2_0', c1, T473]
    rw [s]
    exact bad 14 σ1 (by decide) (sqc_r _) un
  · by_cases c2 : ¬ vk (rgV S (dR w)) = 3 ∧ ¬ vk (rgV S (dR w)) = 5 ∧ ¬ vk (rgV S (dR w)) = 9
    · have un : swpV E S w = (4, S) := by
        unfold swpV
        rw [if_neg n3, if_neg c1, if_pos c2]
      have s : RR (lkB tb513) (B513_73, [some (mR (some 80)), some (mL w), none, some (mI ((bytN w : Nat) : Int)), some (mI (32661 : Int)), some (mI (fI w)), some (mI (z : Int)), some (mI (y : Int))], [], σ1) = RR (lkB tb513) (B513_227, [some (mR (some 80)), some (mL w), none, some (mI ((bytN w : Nat) : Int)), some (mI (32661 : Int)), some (mI (fI w)), some (mI (z : Int)), some (mI (y : Int))], [], flt σ1 4) := by
        simp only [e513_73, e513_87, e513_138, Option.getD_some, Option.bind_some, Option.toList_some, Option.toList_none, List.cons_append, List.nil_append, and_self, and_true, true_and, false_and, and_false, ite_self, not_true_eq_false, not_false_eq_true, reduceIte, Nat.reduceEqDiff, ab_I, ab_L, ab_R, ao_I, ao_L, ao_R, gL_sL, gI_sI, gR_sR, gI_sL, gI_sR, gL_sI, gL_sR, gR_sI, gR_sL, g0, T493 bX, nX, h11, b2_0', c1, T473, g_118, Int.reduceLT, Int.reduceLE, k118, c2.1, c2.2.1, c2.2.2]
      rw [s]
      exact bad 4 σ1 (by decide) (sqc_r _) un
    · have c2' : vk (rgV S (dR w)) = 3 ∨ vk (rgV S (dR w)) = 5 ∨ vk (rgV S (dR w)) = 9 := by
        refine Classical.byContradiction fun q => c2 ⟨fun a => q (Or.inl a), fun a => q (Or.inr (Or.inl a)), fun a => q (Or.inr (Or.inr a))⟩
      have hm : mvs (rgV S (dR w)) := by
        unfold mvs
        rcases c2' with q | q | q
        · exact Or.inl q
        · exact Or.inr (Or.inl q)
        · exact Or.inr (Or.inr (Or.inr q))
      have s141 : RR (lkB tb513) (B513_73, [some (mR (some 80)), some (mL w), none, some (mI ((bytN w : Nat) : Int)), some (mI (32661 : Int)), some (mI (fI w)), some (mI (z : Int)), some (mI (y : Int))], [], σ1) = RR (lkB tb513) (B513_141, [some (mR (some 80)), some (mL w), none, some (mI ((bytN w : Nat) : Int)), some (mI (32661 : Int)), some (mI (fI w)), some (mI (z : Int)), some (mI (y : Int))], [], σ1) := by
        rcases c2' with q | q | q
        all_goals simp only [e513_73, e513_87, Option.getD_some, Option.bind_some, Option.toList_some, Option.toList_none, List.cons_append, List.nil_append, and_self, and_true, true_and, false_and, and_false, ite_self, not_true_eq_false, not_false_eq_true, reduceIte, Nat.reduceEqDiff, ab_I, ab_L, ab_R, ao_I, ao_L, ao_R, gL_sL, gI_sI, gR_sR, gI_sL, gI_sR, gL_sI, gL_sR, gR_sI, gR_sL, g0, T493 bX, nX, h11, b2_0', c1, g_118, Int.reduceLT, Int.reduceLE, k118, q, Int.reduceEq]
      have t3 := T503 (σ := σ1) (x := 32661) (y := fO w) (n := bytN w) (g := 3) (t := t) (E := E) bX (by rw [nX, h11]; exact hm) (by rw [nX, h11]; exact okX) (EO_sq h10 h4) (by rw [nX, h11]; exact canX.2.2.2.2.2) fo (by omega)
      simp only [nX, h11] at t3
      have s152 : RR (lkB tb513) (B513_141, [some (mR (some 80)), some (mL w), none, some (mI ((bytN w : Nat) : Int)), some (mI (32661 : Int)), some (mI (fI w)), some (mI (z : Int)), some (mI (y : Int))], [], σ1) = RR (lkB tb513) (B513_152, [some (mR (some 80)), some (mL w), none, some (mI ((bytN w : Nat) : Int)), some (mI (32661 : Int)), some (mI (fI w)), some (mI (z : Int)), some (mI (y : Int))], [mI (b2 (room E (rgV S (dR w)) (fO w) (bytN w)))], (if vk (rgV S (dR w)) = 3 then sI (sI σ1 80 103 (vw (rgV S (dR w)))) 80 102 (vo (rgV S (dR w)) + fO w + 128) else σ1)) := by
        simp only [e513_141, e513_148, Option.getD_some, Option.bind_some, Option.toList_some, Option.toList_none, List.cons_append, List.nil_append, and_self, and_true, true_and, false_and, and_false, ite_self, not_true_eq_false, not_false_eq_true, reduceIte, Nat.reduceEqDiff, ab_I, ab_L, ab_R, ao_I, ao_L, ao_R, gL_sL, gI_sI, gR_sR, gI_sL, gI_sR, gL_sI, gL_sR, gR_sI, gR_sL, T335, t3]
      rw [s141, s152]
      by_cases c5 : room E (rgV S (dR w)) (fO w) (bytN w)
      · rw [b2_yes c5]
        have leak : ∀ ρ : MS, sqc ρ σ1 → aV ρ y = (rgV S (sRr w)) → RR (lkB tb513) (B513_191, [some (mR (some 80)), some (mL w), none, some (mI ((bytN w : Nat) : Int)), some (mI (32661 : Int)), some (mI (fI w)), some (mI (z : Int)), some (mI (y : Int))], [], ρ) = RR (lkB tb513) (B513_227, [some (mR (some 80)), some (mL w), none, some (mI ((bytN w : Nat) : Int)), some (mI (32661 : Int)), some (mI (fI w)), some (mI (z : Int)), some (mI (y : Int))], [], if ¬ vk (rgV S (sRr w)) = 1 ∨ fI w = 241 ∧ ¬ vk (rgV S 0) = 1 then flt ρ 7 else ρ) := fun ρ hr hy => by
          have ky : gI ρ 118 y = vk (rgV S (sRr w)) := by rw [q118, hy]
          have kz := vz ρ hr
          by_cases a1 : vk (rgV S (sRr w)) = 1
          · by_cases a2 : fI w = 241
            · by_cases a3 : vk (rgV S 0) = 1
              · rw [if_neg (fun q => q.elim (fun r => r a1) (fun r => r.2 a3))]
                simp only [e513_191, e513_221, Option.getD_some, Option.bind_some, Option.toList_some, Option.toList_none, List.cons_append, List.nil_append, and_self, and_true, true_and, false_and, and_false, ite_self, not_true_eq_false, not_false_eq_true, reduceIte, Nat.reduceEqDiff, ab_I, ab_L, ab_R, ao_I, ao_L, ao_R, gL_sL, gI_sI, gR_sR, gI_sL, gI_sR, gL_sI, gL_sR, gR_sI, gR_sL, g_118, h13.1, h13.2, iz.1, iz.2, Int.toNat_natCast, ky, kz, a1, a2, a3]
              · rw [if_pos (Or.inr ⟨a2, a3⟩)]
                simp only [e513_191, e513_221, Option.getD_some, Option.bind_some, Option.toList_some, Option.toList_none, List.cons_append, List.nil_append, and_self, and_true, true_and, false_and, and_false, ite_self, not_true_eq_false, not_false_eq_true, reduceIte, Nat.reduceEqDiff, ab_I, ab_L, ab_R, ao_I, ao_L, ao_R, gL_sL, gI_sI, gR_sR, gI_sL, gI_sR, gL_sI, gL_sR, gR_sI, gR_sL, g_118, h13.1, h13.2, iz.1, iz.2, Int.toNat_natCast, ky, kz, a1, a2, a3, T473]
            · rw [if_neg (fun q => q.elim (fun r => r a1) (fun r => a2 r.1))]
              simp only [e513_191, e513_221, Option.getD_some, Option.bind_some, Option.toList_some, Option.toList_none, List.cons_append, List.nil_append, and_self, and_true, true_and, false_and, and_false, ite_self, not_true_eq_false, not_false_eq_true, reduceIte, Nat.reduceEqDiff, ab_I, ab_L, ab_R, ao_I, ao_L, ao_R, gL_sL, gI_sI, gR_sR, gI_sL, gI_sR, gL_sI, gL_sR, gR_sI, gR_sL, g_118, h13.1, h13.2, iz.1, iz.2, Int.toNat_natCast, ky, kz, a1, a2]
          · rw [if_pos (Or.inl a1)]
            simp only [e513_191, e513_221, Option.getD_some, Option.bind_some, Option.toList_some, Option.toList_none, List.cons_append, List.nil_append, and_self, and_true, true_and, false_and, and_false, ite_self, not_true_eq_false, not_false_eq_true, reduceIte, Nat.reduceEqDiff, ab_I, ab_L, ab_R, ao_I, ao_L, ao_R, gL_sL, gI_sI, gR_sR, gI_sL, gI_sR, gL_sI, gL_sR, gR_sI, gR_sL, g_118, h13.1, h13.2, Int.toNat_natCast, ky, a1, T473]
        by_cases k3 : vk (rgV S (dR w)) = 3
        · rw [if_pos k3]
          have hf := okV_f h2 h7 k3
          have hr : -128 ≤ vo (rgV S (dR w)) + fO w ∧ vo (rgV S (dR w)) + fO w ≤ -(bytN w : Int) := by
            have := c5
            unfold room at this
            rw [if_pos k3] at this
            exact this
          have eb : vo (rgV S (dR w)) + fO w + 128 = (((vo (rgV S (dR w)) + fO w + 128).toNat : Nat) : Int) := by omega
          have bb : (vo (rgV S (dR w)) + fO w + 128).toNat + bytN w ≤ 128 := by omega
          generalize eB : (vo (rgV S (dR w)) + fO w + 128).toNat = b at eb bb
          generalize hρ : sI (sI σ1 80 103 (vw (rgV S (dR w)))) 80 102 (vo (rgV S (dR w)) + fO w + 128) = ρ
          have r1 : sqc ρ σ1 := by rw [← hρ]; exact sqc_pb
          have r2 : gI ρ 80 102 = (b : Int) := by rw [← hρ, gI_sI, if_pos ⟨rfl, rfl⟩, eb]
          have r3 : gI ρ 80 103 = vw (rgV S (dR w)) := by rw [← hρ, gI_sI, if_neg (by omega), gI_sI, if_pos ⟨rfl, rfl⟩]
          have r4 : aV ρ 32661 = (rgV S (dR w)) := by rw [← hρ, aV_sI (by omega), aV_sI (by omega), h11]
          have r5 : J0 ρ S := JSt_sq (sqc_t r1 h10) (by omega) hF.2 h1
          have r6 : gI ρ 118 32661 = 3 := by rw [q118, r4]; exact k3
          have hfr : gI ρ 80 103 = (((vw (rgV S (dR w))).toNat : Nat) : Int) := by omega
          have t5 : MM 505 [mR (some 80), mI ((bytN w : Nat) : Int)] ρ = some (some (mI (b2 (areS S (vw (rgV S (dR w))).toNat b (bytN w) = true))), ρ) := by
            have := T505 (σ := ρ) (n := bytN w) r5 hF.2 h3 (by omega) (by omega) (by omega)
            rwa [r3, r2, Int.toNat_natCast] at this
          by_cases V : areS S (vw (rgV S (dR w))).toNat b (bytN w) = true
          · have s191 : RR (lkB tb513) (B513_152, [some (mR (some 80)), some (mL w), none, some (mI ((bytN w : Nat) : Int)), some (mI (32661 : Int)), some (mI (fI w)), some (mI (z : Int)), some (mI (y : Int))], [mI 1], ρ) = RR (lkB tb513) (B513_191, [some (mR (some 80)), some (mL w), none, some (mI ((bytN w : Nat) : Int)), some (mI (32661 : Int)), some (mI (fI w)), some (mI (z : Int)), some (mI (y : Int))], [], ρ) := by
              simp only [e513_152, e513_179, Option.getD_some, Option.bind_some, Option.toList_some, Option.toList_none, List.cons_append, List.nil_append, and_self, and_true, true_and, false_and, and_false, ite_self, not_true_eq_false, not_false_eq_true, reduceIte, Nat.reduceEqDiff, ab_I, ab_L, ab_R, ao_I, ao_L, ao_R, gL_sL, gI_sI, gR_sR, gI_sL, gI_sR, gL_sI, gL_sR, gR_sI, gR_sL, oneI, g_118, Int.reduceLT, Int.reduceLE, nX, r6, t5, b2_yes V]
            rw [s191, leak ρ r1 (by rw [← hρ, aV_sI (by omega), aV_sI (by omega), h12])]
            have V' : ¬ (vk (rgV S (dR w)) = 3 ∧ areS S (vw (rgV S (dR w))).toNat b (bytN w) = false) := fun q => by rw [V] at q; exact absurd q.2 (by decide)
            by_cases L : ¬ vk (rgV S (sRr w)) = 1 ∨ fI w = 241 ∧ ¬ vk (rgV S 0) = 1
            · have un : swpV E S w = (7, S) := by
                unfold swpV
                rw [if_neg n3, if_neg c1, if_neg c2, if_neg (not_not_intro c5), eB, if_neg V', if_pos L]
              rw [if_pos L]
              exact bad 7 ρ (by decide) r1 un
            · have un : swpV E S w = (0, if fI w = 241 then wV (putB S (vw (rgV S (dR w))).toNat b (bytN w) (bytN w)) 0 (numV (wideN (bytN w))) else if fI w % 2 = 1 then wV (putB S (vw (rgV S (dR w))).toNat b (bytN w) (bytN w)) (sRr w) (numV (wideN (bytN w))) else putB S (vw (rgV S (dR w))).toNat b (bytN w) (bytN w)) := by
                unfold swpV
                rw [if_neg n3, if_neg c1, if_neg c2, if_neg (not_not_intro c5), eB, if_neg V', if_neg L]
                rw [if_pos k3]
              rw [if_neg L]
              have t7 := L507 (σ := ρ) (n := bytN w) (b := b) (f := (vw (rgV S (dR w))).toNat) (Q := fun m => putB S (vw (rgV S (dR w))).toNat b m m) hF.2 (by show (vw (rgV S (dR w))).toNat < sF S; omega) r2 hfr bb (fun m hm => one_a h3 (by omega)) (fun m _ => can_put h3) (by show J0 ρ (putB S (vw (rgV S (dR w))).toNat b 0 0); rw [putB_0]; exact r5)
              have g0r : gI ρ 80 90 = 0 := (sqc_I r1 (by omega) (by omega)).trans g0
              simp only [e513_227, Option.getD_some, Option.bind_some, Option.toList_some, Option.toList_none, List.cons_append, List.nil_append, and_self, and_true, true_and, false_and, and_false, ite_self, not_true_eq_false, not_false_eq_true, reduceIte, Nat.reduceEqDiff, ab_I, ab_L, ab_R, ao_I, ao_L, ao_R, gL_sL, gI_sI, gR_sR, gI_sL, gI_sR, gL_sI, gL_sR, gR_sI, gR_sL, g0r, g_118, Int.reduceLT, Int.reduceLE, nX, r6]
              refine okc_b t7 fun τ q => ?_
              simp only [Option.toList_none, List.nil_append]
              obtain ⟨q1, q2, q3, q4⟩ := q
              have s1 := sqc_t r1 h10
              have jqt : jq τ ρ := ⟨fun k s z => q2 k s (fun y => z (Or.inl ⟨y.1, Or.inl y.2⟩)), fun k s z => q3 k s (fun y => z ⟨y.1, Or.inl y.2⟩), q4⟩
              refine L513e h q1 rfl (jq_t jqt (jq_sq s1)) ⟨?_, ?_, ?_, ?_⟩ un
              · rw [q2 _ _ (by omega), sqc_I s1 (by omega) (by omega), h5]
              · rw [q2 _ _ (by omega), sqc_I s1 (by omega) (by omega)]
              · rw [q2 _ _ (by omega), sqc_I s1 (by omega) (by omega)]
              · rw [q2 _ _ (by omega), sqc_I s1 (by omega) (by omega), h6]
          · have V' : areS S (vw (rgV S (dR w))).toNat b (bytN w) = false := by simpa using V
            have un : swpV E S w = (6, S) := by
              unfold swpV
              rw [if_neg n3, if_neg c1, if_neg c2, if_neg (not_not_intro c5), eB, if_pos ⟨k3, V'⟩]
            have s : RR (lkB tb513) (B513_152, [some (mR (some 80)), some (mL w), none, some (mI ((bytN w : Nat) : Int)), some (mI (32661 : Int)), some (mI (fI w)), some (mI (z : Int)), some (mI (y : Int))], [mI 1], ρ) = RR (lkB tb513) (B513_227, [some (mR (some 80)), some (mL w), none, some (mI ((bytN w : Nat) : Int)), some (mI (32661 : Int)), some (mI (fI w)), some (mI (z : Int)), some (mI (y : Int))], [], flt ρ 6) := by
              simp only [e513_152, e513_179, e513_188, Option.getD_some, Option.bind_some, Option.toList_some, Option.toList_none, List.cons_append, List.nil_append, and_self, and_true, true_and, false_and, and_false, ite_self, not_true_eq_false, not_false_eq_true, reduceIte, Nat.reduceEqDiff, ab_I, ab_L, ab_R, ao_I, ao_L, ao_R, gL_sL, gI_sI, gR_sR, gI_sL, gI_sR, gL_sI, gL_sR, gR_sI, gR_sL, oneI, g_118, Int.reduceLT, Int.reduceLE, nX, r6, t5, b2_no V, T473]
            rw [s]
            exact bad 6 ρ (by decide) r1 un
        · rw [if_neg k3]
          have s191 : RR (lkB tb513) (B513_152, [some (mR (some 80)), some (mL w), none, some (mI ((bytN w : Nat) : Int)), some (mI (32661 : Int)), some (mI (fI w)), some (mI (z : Int)), some (mI (y : Int))], [mI 1], σ1) = RR (lkB tb513) (B513_191, [some (mR (some 80)), some (mL w), none, some (mI ((bytN w : Nat) : Int)), some (mI (32661 : Int)), some (mI (fI w)), some (mI (z : Int)), some (mI (y : Int))], [], σ1) := by
            simp only [e513_152, Option.getD_some, Option.bind_some, Option.toList_some, Option.toList_none, List.cons_append, List.nil_append, and_self, and_true, true_and, false_and, and_false, ite_self, not_true_eq_false, not_false_eq_true, reduceIte, Nat.reduceEqDiff, ab_I, ab_L, ab_R, ao_I, ao_L, ao_R, gL_sL, gI_sI, gR_sR, gI_sL, gI_sR, gL_sI, gL_sR, gR_sI, gR_sL, oneI, g_118, Int.reduceLT, Int.reduceLE, nX, k118, k3]
          rw [s191, leak σ1 (sqc_r _) h12]
          by_cases L : ¬ vk (rgV S (sRr w)) = 1 ∨ fI w = 241 ∧ ¬ vk (rgV S 0) = 1
          · have un : swpV E S w = (7, S) := by
              unfold swpV
              rw [if_neg n3, if_neg c1, if_neg c2, if_neg (not_not_intro c5), if_neg (fun q => k3 q.1), if_pos L]
            rw [if_pos L]
            exact bad 7 σ1 (by decide) (sqc_r _) un
          · have un : swpV E S w = (0, if fI w = 241 then wV S 0 (numV (wideN (bytN w))) else if fI w % 2 = 1 then wV S (sRr w) (numV (wideN (bytN w))) else S) := by
              unfold swpV
              rw [if_neg n3, if_neg c1, if_neg c2, if_neg (not_not_intro c5), if_neg (fun q => k3 q.1), if_neg L]
              rw [if_neg k3]
            rw [if_neg L]
            simp only [e513_227, Option.getD_some, Option.bind_some, Option.toList_some, Option.toList_none, List.cons_append, List.nil_append, and_self, and_true, true_and, false_and, and_false, ite_self, not_true_eq_false, not_false_eq_true, reduceIte, Nat.reduceEqDiff, ab_I, ab_L, ab_R, ao_I, ao_L, ao_R, gL_sL, gI_sI, gR_sR, gI_sL, gI_sR, gL_sI, gL_sR, gR_sI, gR_sL, g0, g_118, Int.reduceLT, Int.reduceLE, nX, k118, k3]
            refine L513e h J1 rfl (jq_sq h10) ⟨g0, ?_, ?_, ?_⟩ un
            · exact sqc_I h10 (by omega) (by omega)
            · exact sqc_I h10 (by omega) (by omega)
            · rw [sqc_I h10 (by omega) (by omega), h6]
      · have un : swpV E S w = (5, S) := by
          unfold swpV
          rw [if_neg n3, if_neg c1, if_neg c2, if_pos c5]
        rw [b2_no c5]
        generalize hρ : (if vk (rgV S (dR w)) = 3 then sI (sI σ1 80 103 (vw (rgV S (dR w)))) 80 102 (vo (rgV S (dR w)) + fO w + 128) else σ1) = ρ
        have r1 : sqc ρ σ1 := by
          rw [← hρ]
          split
          · exact sqc_pb
          · exact sqc_r _
        have s : RR (lkB tb513) (B513_152, [some (mR (some 80)), some (mL w), none, some (mI ((bytN w : Nat) : Int)), some (mI (32661 : Int)), some (mI (fI w)), some (mI (z : Int)), some (mI (y : Int))], [mI 0], ρ) = RR (lkB tb513) (B513_227, [some (mR (some 80)), some (mL w), none, some (mI ((bytN w : Nat) : Int)), some (mI (32661 : Int)), some (mI (fI w)), some (mI (z : Int)), some (mI (y : Int))], [], flt ρ 5) := by
          simp only [e513_152, e513_160, Option.getD_some, Option.bind_some, Option.toList_some, Option.toList_none, List.cons_append, List.nil_append, and_self, and_true, true_and, false_and, and_false, ite_self, not_true_eq_false, not_false_eq_true, reduceIte, Nat.reduceEqDiff, ab_I, ab_L, ab_R, ao_I, ao_L, ao_R, gL_sL, gI_sI, gR_sR, gI_sL, gI_sR, gL_sI, gL_sR, gR_sI, gR_sL, T473]
        rw [s]
        exact bad 5 ρ (by decide) r1 un
theorem T513 (hJ : J0 σ S) (ho : okS E t S) (hc : canS S) (hE : EO σ E) (hw : okMem w) (hl : fL w = 3 ∧ fM w = 192) (h0 : gI σ 80 90 = 0) (ht : gI σ 80 85 = t) : okc (MM 513 [mR (some 80), mL w, mI ((bytN w : Nat) : Int)] σ) none (fun τ => jpo σ τ (swpV E S w).1 (swpV E S w).2 (gI σ 80 88) (gI σ 80 89) t) := by
  have hF := ho.1
  have f := fld_rng w
  have f1 : 0 ≤ fD w := f.2.1.1
  have f2 : 0 ≤ fS w := f.2.2.1.1
  have hw2 : fD w ≤ 10 ∧ fS w ≤ 10 ∧ (fI w % 2 = 1 → ¬ fI w = 241 → fS w ≤ 9) := by
    have := hw
    unfold okMem at this
    rw [if_neg (by omega), if_neg (by omega), if_neg (by omega)] at this
    obtain ⟨⟨-, a⟩, b⟩ := this
    refine ⟨a, ?_, fun q1 q2 => ?_⟩
    · rcases b with b | b <;> omega
    · rcases b with b | b
      · exfalso; omega
      · exact b.2
  obtain ⟨w1, w2, w3⟩ := hw2
  have d10 : dR w ≤ 10 := by unfold dR; omega
  have s10 : sRr w ≤ 10 := by unfold sRr; omega
  have t1 := T492 (σ := σ) (r := fD w) ⟨f1, w1⟩ (by rw [hJ.1]; omega)
  have ip := plc_b hJ.1 hF (r := fD w) ⟨f1, w1⟩
  have vx := at_v hJ hF (r := fD w) ⟨f1, w1⟩
  generalize plc (gI σ 123 0) (fD w) = px at t1 ip vx
  generalize hσ1 : mk10 σ (fD w) = σ1 at t1 vx
  have vx : aV σ1 px = (rgV S (dR w)) := vx
  have r1 : sqc σ1 σ := by rw [← hσ1]; exact mk_sq
  have okX := okV_r ho d10
  have bK : inB 32661 := by decide
  have tk := T430 (σ := flt σ1 (wntS (rgV S (dR w)))) ip bK (by rw [Int.toNat_natCast, aV_flt, vx]; have := okX.1; omega)
  rw [Int.toNat_natCast, aV_flt, vx, wrV_flt] at tk
  generalize hσ2 : wrV σ1 (32661 : Int).toNat (rgV S (dR w)) = σ2 at tk
  have r2 : sqc σ2 σ := by rw [← hσ2]; exact sqc_t (sqc_w (by decide)) r1
  have v2 : aV σ2 32661 = (rgV S (dR w)) := by rw [← hσ2]; exact aV_same
  have J2 : J0 σ2 S := JSt_sq r2 (by omega) hF.2 hJ
  have g0 : gI σ2 80 90 = 0 := (sqc_I r2 (by omega) (by omega)).trans h0
  generalize hz : 26 * (sF S - 1) = z
  have iz : inB (z : Int) := ⟨by omega, by omega⟩
  have vz : aV σ2 z = (rgV S 0) := by
    rw [J0_v J2 (by omega), ← hz]
    rfl
  have tz := T492 (σ := flt σ2 (wntS (rgV S (dR w)))) (r := 0) (by omega) (by rw [fl_o (by omega), J2.1]; omega)
  rw [fl_o (by omega), plc_9 J2.1 hF.1 (by omega) (by omega), mkr_9 (by omega), show 26 * (sF S - 1) + (0 : Int).toNat = z by rw [← hz]; rfl] at tz
  have ts := T492 (σ := flt σ2 (fst (wntS (rgV S (dR w))) (if fI w = 241 then wntS (rgV S 0) else 0))) (r := fS w) ⟨f2, w2⟩ (by rw [fl_o (by omega), J2.1]; omega)
  rw [fl_o (by omega), mk_flt] at ts
  have iy := plc_b J2.1 hF (r := fS w) ⟨f2, w2⟩
  have vy := at_v J2 hF (r := fS w) ⟨f2, w2⟩
  have n61 : ¬ (plc (gI σ2 123 0) (fS w)) = 32661 := by
    by_cases e : fS w = 10
    · rw [e, plc_10]
      decide
    · rw [plc_9 J2.1 hF.1 f2 (by omega)]
      omega
  have e9 : fS w ≤ 9 → plc (gI σ2 123 0) (fS w) = z + sRr w := fun q => by rw [plc_9 J2.1 hF.1 f2 q, hz]
  generalize plc (gI σ2 123 0) (fS w) = y at ts iy vy n61 e9
  have v3 : aV (mk10 σ2 (fS w)) 32661 = (rgV S (dR w)) := by rw [mk_V, if_neg (by omega), v2]
  generalize hσ3 : mk10 σ2 (fS w) = σ3 at ts vy v3
  have r3 : sqc σ3 σ := by rw [← hσ3]; exact sqc_t mk_sq r2
  have s73 : MM 513 [mR (some 80), mL w, mI ((bytN w : Nat) : Int)] σ = RR (lkB tb513) (B513_73, [some (mR (some 80)), some (mL w), none, some (mI ((bytN w : Nat) : Int)), some (mI (32661 : Int)), some (mI (fI w)), some (mI (z : Int)), some (mI (y : Int))], [], flt σ3 (fst (fst (wntS (rgV S (dR w))) (if fI w = 241 then wntS (rgV S 0) else 0)) (wntS (rgV S (sRr w))))) := by
    have s57 : MM 513 [mR (some 80), mL w, mI ((bytN w : Nat) : Int)] σ = RR (lkB tb513) (B513_57, [some (mR (some 80)), some (mL w), none, some (mI ((bytN w : Nat) : Int)), some (mI (32661 : Int)), some (mI (fI w)), some (mI (z : Int)), none], [], flt σ2 (fst (wntS (rgV S (dR w))) (if fI w = 241 then wntS (rgV S 0) else 0))) := by
      by_cases c : fI w = 241
      · rw [if_pos c]
        simp only [M513, e513_0, e513_5, e513_8, e513_14, e513_22, e513_31, e513_41, Option.getD_some, Option.bind_some, Option.toList_some, Option.toList_none, List.cons_append, List.nil_append, and_self, and_true, true_and, false_and, and_false, ite_self, not_true_eq_false, not_false_eq_true, reduceIte, Nat.reduceEqDiff, ab_I, ab_L, ab_R, ao_I, ao_L, ao_R, gL_sL, gI_sI, gR_sR, gI_sL, gI_sR, gL_sI, gL_sR, gR_sI, gR_sL, T333, T336, t1, T494 ip, Int.toNat_natCast, vx, tk, tz, c, T494 iz, aV_flt, vz, flt_flt]
      · rw [if_neg c]
        have e0 : fst (wntS (rgV S (dR w))) 0 = wntS (rgV S (dR w)) := by
          unfold fst
          split
          · rename_i q; exact q.symm
          · rfl
        rw [e0]
        simp only [M513, e513_0, e513_5, e513_8, e513_14, e513_22, e513_31, e513_41, Option.getD_some, Option.bind_some, Option.toList_some, Option.toList_none, List.cons_append, List.nil_append, and_self, and_true, true_and, false_and, and_false, ite_self, not_true_eq_false, not_false_eq_true, reduceIte, Nat.reduceEqDiff, ab_I, ab_L, ab_R, ao_I, ao_L, ao_R, gL_sL, gI_sI, gR_sR, gI_sL, gI_sR, gL_sI, gL_sR, gR_sI, gR_sL, T333, T336, t1, T494 ip, Int.toNat_natCast, vx, tk, tz, c]
    rw [s57]
    simp only [e513_57, e513_62, e513_65, Option.getD_some, Option.bind_some, Option.toList_some, Option.toList_none, List.cons_append, List.nil_append, and_self, and_true, true_and, false_and, and_false, ite_self, not_true_eq_false, not_false_eq_true, reduceIte, Nat.reduceEqDiff, ab_I, ab_L, ab_R, ao_I, ao_L, ao_R, gL_sL, gI_sI, gR_sR, gI_sL, gI_sR, gL_sI, gL_sR, gR_sI, gR_sL, T334, ts, T494 iy, Int.toNat_natCast, aV_flt, vy, flt_flt]
  rw [s73]
  have H : wH S E w t σ σ3 y z := ⟨⟨hJ, ho, hc, hE⟩, ⟨h0, ht⟩, ⟨d10, s10, hz.symm, fun q1 q2 => ?_⟩, ⟨r3, v3, vy, iy⟩⟩
  · have g3 : gI σ3 80 90 = 0 := (sqc_I r3 (by omega) (by omega)).trans h0
    by_cases q : vk (rgV S (dR w)) = 0 ∨ fI w = 241 ∧ vk (rgV S 0) = 0 ∨ vk (rgV S (sRr w)) = 0
    · have un : swpV E S w = (3, S) := by
        unfold swpV
        rw [if_pos q]
      have e3 : fst (fst (wntS (rgV S (dR w))) (if fI w = 241 then wntS (rgV S 0) else 0)) (wntS (rgV S (sRr w))) = 3 := by
        unfold wntS fst
        by_cases a : vk (rgV S (dR w)) = 0
        · simp [a]
        · by_cases b : fI w = 241 ∧ vk (rgV S 0) = 0
          · simp [a, b]
          · have c : vk (rgV S (sRr w)) = 0 := (q.resolve_left a).resolve_left b
            by_cases d : fI w = 241
            · have : ¬ vk (rgV S 0) = 0 := fun r => b ⟨d, r⟩
              simp [a, c, d, this]
            · simp [a, c, d]
      have g : ¬ gI (flt σ3 3) 80 90 = 0 := by rw [fl_g, g3, fst0]; decide
      rw [e3, un]
      simp only [e513_73, Option.getD_some, Option.bind_some, Option.toList_some, Option.toList_none, List.cons_append, List.nil_append, and_self, and_true, true_and, false_and, and_false, ite_self, not_true_eq_false, not_false_eq_true, reduceIte, Nat.reduceEqDiff, ab_I, ab_L, ab_R, ao_I, ao_L, ao_R, gL_sL, gI_sI, gR_sR, gI_sL, gI_sR, gL_sI, gL_sR, gR_sI, gR_sL, g]
      exact okc_s (wH_no H (by decide) (sqc_r _) (sqc_r _))
    · have a : ¬ vk (rgV S (dR w)) = 0 := fun r => q (Or.inl r)
      have b : fI w = 241 → ¬ vk (rgV S 0) = 0 := fun r1 r2 => q (Or.inr (Or.inl ⟨r1, r2⟩))
      have c : ¬ vk (rgV S (sRr w)) = 0 := fun r => q (Or.inr (Or.inr r))
      have e0 : fst (fst (wntS (rgV S (dR w))) (if fI w = 241 then wntS (rgV S 0) else 0)) (wntS (rgV S (sRr w))) = 0 := by
        have ex : wntS (rgV S (dR w)) = 0 := if_neg a
        have ey : wntS (rgV S (sRr w)) = 0 := if_neg c
        rw [ex, ey, fst0]
        split
        · rename_i r
          rw [show wntS (rgV S 0) = 0 from if_neg (b r)]
          rfl
        · rfl
      rw [e0, flt_0]
      exact L513 H a c b
  · have := w3 q1 q2
    exact ⟨by unfold sRr; omega, by rw [e9 this, ← hz]⟩
end SWP
/-! memory, as one -/
theorem T509 {w : B64} {S : ST} {E : EV} {t : Int} {σ : MS} (hJ : J0 σ S) (ho : okS E t S) (hc : canS S) (hE : EO σ E) (hw : okMem w) (hl : fL w = 1 ∨ fL w = 2 ∨ fL w = 3) (h0 : gI σ 80 90 = 0) (ht : gI σ 80 85 = t) : okc (MM 509 [mR (some 80), mL w, mI (fOp w)] σ) none (fun τ =>
    if fL w = 1 then jpo σ τ (lodV E S w).1 (wV S (dR w) (lodV E S w).2) (gI σ 80 88) (gI σ 80 89) t
    else if fL w = 3 ∧ fM w = 192 then jpo σ τ (swpV E S w).1 (swpV E S w).2 (gI σ 80 88) (gI σ 80 89) t
    else jpo σ τ (stoV E S w).1 (stoV E S w).2 (gI σ 80 88) (gI σ 80 89) t) := by
  by_cases l1 : fL w = 1
  · rw [show (fun τ => if fL w = 1 then jpo σ τ (lodV E S w).1 (wV S (dR w) (lodV E S w).2) (gI σ 80 88) (gI σ 80 89) t else if fL w = 3 ∧ fM w = 192 then jpo σ τ (swpV E S w).1 (swpV E S w).2 (gI σ 80 88) (gI σ 80 89) t else jpo σ τ (stoV E S w).1 (stoV E S w).2 (gI σ 80 88) (gI σ 80 89) t) = fun τ => jpo σ τ (lodV E S w).1 (wV S (dR w) (lodV E S w).2) (gI σ 80 88) (gI σ 80 89) t from funext fun τ => if_pos l1]
    simp only [M509, e509_0, e509_4, Option.getD_some, Option.bind_some, Option.toList_some, Option.toList_none, List.cons_append, List.nil_append, and_self, and_true, true_and, false_and, and_false, ite_self, not_true_eq_false, not_false_eq_true, reduceIte, Nat.reduceEqDiff, ab_I, ab_L, ab_R, ao_I, ao_L, ao_R, gL_sL, gI_sI, gR_sR, gI_sL, gI_sR, gL_sI, gL_sR, gR_sI, gR_sL, T508, m7, l1]
    refine okc_b (T511 hJ ho hc hE hw l1 h0 ht) fun τ q => ?_
    simp only [Option.toList_none, List.nil_append, e509_22, e509_54]
    exact okc_s q
  · by_cases l3 : fL w = 3 ∧ fM w = 192
    · rw [show (fun τ => if fL w = 1 then jpo σ τ (lodV E S w).1 (wV S (dR w) (lodV E S w).2) (gI σ 80 88) (gI σ 80 89) t else if fL w = 3 ∧ fM w = 192 then jpo σ τ (swpV E S w).1 (swpV E S w).2 (gI σ 80 88) (gI σ 80 89) t else jpo σ τ (stoV E S w).1 (stoV E S w).2 (gI σ 80 88) (gI σ 80 89) t) = fun τ => jpo σ τ (swpV E S w).1 (swpV E S w).2 (gI σ 80 88) (gI σ 80 89) t from funext fun τ => (if_neg l1).trans (if_pos l3)]
      simp only [M509, e509_0, e509_4, Option.getD_some, Option.bind_some, Option.toList_some, Option.toList_none, List.cons_append, List.nil_append, and_self, and_true, true_and, false_and, and_false, ite_self, not_true_eq_false, not_false_eq_true, reduceIte, Nat.reduceEqDiff, ab_I, ab_L, ab_R, ao_I, ao_L, ao_R, gL_sL, gI_sI, gR_sR, gI_sL, gI_sR, gL_sI, gL_sR, gR_sI, gR_sL, T508, m7, m224, l3.2, l1]
      refine okc_b (T513 hJ ho hc hE hw l3 h0 ht) fun τ q => ?_
      simp only [Option.toList_none, List.nil_append, e509_43, e509_54]
      exact okc_s q
    · have hl2 : fL w = 2 ∨ fL w = 3 ∧ fM w = 96 := by
        rcases hl with q | q | q
        · exact absurd q l1
        · exact Or.inl q
        · right
          refine ⟨q, ?_⟩
          have := hw
          unfold okMem at this
          rw [if_neg l1, if_neg (by omega)] at this
          by_cases z : fM w = 96
          · exact z
          · rw [if_neg z] at this
            exfalso
            apply l3
            have e : fM w = fOp w / 32 * 32 := rfl
            exact ⟨q, by have := this.1.1; omega⟩
      have n192 : ¬ fM w = 192 := by
        rcases hl2 with q | q
        · have := hw
          unfold okMem at this
          rw [if_neg l1, if_pos q] at this
          have := this.1
          omega
        · omega
      rw [show (fun τ => if fL w = 1 then jpo σ τ (lodV E S w).1 (wV S (dR w) (lodV E S w).2) (gI σ 80 88) (gI σ 80 89) t else if fL w = 3 ∧ fM w = 192 then jpo σ τ (swpV E S w).1 (swpV E S w).2 (gI σ 80 88) (gI σ 80 89) t else jpo σ τ (stoV E S w).1 (stoV E S w).2 (gI σ 80 88) (gI σ 80 89) t) = fun τ => jpo σ τ (stoV E S w).1 (stoV E S w).2 (gI σ 80 88) (gI σ 80 89) t from funext fun τ => (if_neg l1).trans (if_neg l3)]
      simp only [M509, e509_0, e509_4, Option.getD_some, Option.bind_some, Option.toList_some, Option.toList_none, List.cons_append, List.nil_append, and_self, and_true, true_and, false_and, and_false, ite_self, not_true_eq_false, not_false_eq_true, reduceIte, Nat.reduceEqDiff, ab_I, ab_L, ab_R, ao_I, ao_L, ao_R, gL_sL, gI_sI, gR_sR, gI_sL, gI_sR, gL_sI, gL_sR, gR_sI, gR_sL, T508, m7, m224, n192, l1]
      refine okc_b (T512 hJ ho hc hE hw hl2 h0 ht) fun τ q => ?_
      simp only [Option.toList_none, List.nil_append, e509_54]
      exact okc_s q
