/-! ===== the reference's judge: a step, whole ===== -/
section STEP2
variable {σ τ ρ : MS} {E : EV} {p : Int → B64} {w : WK} {G : Int → Prop} {S0 : ST} {D : Nat → Int} {a : Nat}
theorem bs_sl (hs : okSl σ) : okSl (begS σ w a) := by
  unfold okSl jsA at *
  rw [(bs_I (by omega) (by omega) (by omega) (by omega)), (bs_I (by omega) (by omega) (by omega) (by omega))]
  exact hs
theorem bs_wd {j : Nat} : wdA (begS σ w a) j = wdA σ j := by
  unfold wdA jsA
  rw [(bs_I (by omega) (by omega) (by omega) (by omega)), bs_L (by omega)]
theorem mx_I {S : ST} {v : B64} {k s : Nat} (h : ¬ (k = 138 ∧ s = 5)) : gI (mxS σ S v) k s = gI σ k s := by
  unfold mxS
  split
  · rw [gI_sI, if_neg h]
  · rfl
theorem mx_L {S : ST} {v : B64} {k s : Nat} : gL (mxS σ S v) k s = gL σ k s := by
  unfold mxS
  split
  · rfl
  · rfl
theorem mx_r {S : ST} {v : B64} : (mxS σ S v).2.2 = σ.2.2 := by
  unfold mxS
  split
  · rfl
  · rfl
set_option maxHeartbeats 1000000 in
theorem T495 (hE : okE E) (I : INV dumB dumH E p id S0 G w D) (X : exI w) (hp : okP G p) (hG : ∀ x, G x → 0 ≤ x ∧ x < 200) (hs : okSl σ) (hW : ∀ i : Nat, i < 200 → p i = wdA σ i) (hEO : EO σ E) (hN : RN σ w) (h87 : gI σ 80 87 = yA w) (h90 : gI σ 80 90 = 0) (hK : RK σ w) : okc (MM 495 [mR (some 80)] σ) none (fun τ => stE σ τ E p w) := by
  obtain ⟨kb, ⟨lN, N250, N1⟩, ⟨F0, FG, G4⟩⟩ := inv_B I X
  obtain ⟨⟨c1, c2, c3, c4⟩, kr, rows, wts, ⟨⟨d1, d2, d4, d5⟩, kn⟩⟩ := hK
  obtain ⟨j0, k82, k83⟩ := hN
  obtain ⟨⟨ok, okm, okg, ga⟩, wfK, wfW⟩ := I.2.2.2.2.2
  obtain ⟨a0, a200⟩ := hG _ ga
  obtain ⟨a, ha⟩ : ∃ a : Nat, yA w = (a : Int) := ⟨(yA w).toNat, by omega⟩
  have ai : a < 200 := by omega
  obtain ⟨⟨x1, x2, x3⟩, ⟨x4, x5, x6⟩, x7, x8⟩ := X
  have hF := ok.1
  obtain ⟨p1, p2, p3, p4⟩ := hp (yA w) ga
  have kK : ∀ k, k < yNn w → kst (kS (yH w k)) := fun k q => kst_of (wfK k q).1
  have kW : ∀ j, j < yM w → kst (wtS (yW w j)) := fun j q => kst_of (wfW j q).1
  by_cases c : yG w = 4000
  · have e := ins_g (E := E) (p := p) c
    have g84 : gI σ 80 84 = 4000 := c1.trans c
    simp only [M495, e495_0, e495_16, Option.getD_some, Option.bind_some, Option.toList_some, Option.toList_none, List.cons_append, List.nil_append, and_self, and_true, true_and, false_and, and_false, ite_self, not_true_eq_false, not_false_eq_true, reduceIte, Nat.reduceEqDiff, ab_I, ab_L, ab_R, ao_I, ao_L, ao_R, gL_sL, gI_sI, gR_sR, gI_sL, gI_sR, gL_sI, gL_sR, gR_sI, gR_sL, g84, T473]
    refine okc_s ?_
    unfold stE
    rw [e]
    refine ⟨wq_jq jq_f, fun _ => ⟨by rw [fl_g, h90, fst0], (fl_o (by omega)).trans h87, ⟨⟨(fl_o (by omega)).trans d1, (fl_o (by omega)).trans d2, (fl_o (by omega)).trans d4, (fl_o (by omega)).trans d5⟩, KN_fr (fun k s q => fl_o (by omega)) (fun s => rfl) kn⟩⟩, fun z => absurd z (show ¬ (12 : Int) = 0 by decide)⟩
  · have s73 := L495b (w := w) (h87.trans ha) ai hs c1 k83 c ⟨by omega, G4⟩ ⟨F0, by omega⟩ j0 hF
    have wp : wdA σ a = p (yA w) := by
      rw [ha]
      exact (hW a ai).symm
    rw [s73, wp]
    have H : HJ (begS σ w a) (yS w) E (yT w) (yNn w) (yH w) (yK w) (yM w) := by
      refine ⟨⟨bs_J j0, ok, x1, fun m hm => ?_⟩, ⟨?_, ?_, by omega⟩, ⟨fun k hk => ?_, kb, N250⟩, ⟨?_, lN⟩, ⟨?_, x4⟩, ?_⟩
      · rw [(bs_I (by omega) (by omega) (by omega) (by omega)), (bs_I (by omega) (by omega) (by omega) (by omega)), (bs_I (by omega) (by omega) (by omega) (by omega)), (bs_I (by omega) (by omega) (by omega) (by omega))]
        exact hEO m hm
      · rw [(bs_I (by omega) (by omega) (by omega) (by omega))]; exact h90
      · rw [(bs_I (by omega) (by omega) (by omega) (by omega))]; exact c2
      · rw [(bs_I (by omega) (by omega) (by omega) (by omega)), (bs_I (by omega) (by omega) (by omega) (by omega)), (bs_I (by omega) (by omega) (by omega) (by omega)), (bs_I (by omega) (by omega) (by omega) (by omega)), (bs_I (by omega) (by omega) (by omega) (by omega))]
        exact kr k hk
      · rw [(bs_I (by omega) (by omega) (by omega) (by omega))]; exact k82
      · rw [(bs_I (by omega) (by omega) (by omega) (by omega))]; exact c4
      · rw [bs_v.1]
        omega
    have t := L495 (i := a) (w := p (yA w)) (w2 := p (yA w + 1)) H hE (bs_sl hs) (by rw [(bs_I (by omega) (by omega) (by omega) (by omega))]; exact h87.trans ha) ai p1 (fun z => by
      have g2 := hG _ (p2 z)
      have l2 : a + 1 < 200 := by omega
      refine ⟨l2, ?_⟩
      rw [bs_wd, ← hW (a + 1) l2, ha]
      rfl) (fun z1 z2 z3 => by
      have g4 := hG _ (p4 z1 z2 z3)
      rw [ha] at g4
      rw [ha]
      omega)
    rw [← ha] at t
    refine okc_m t fun τ z => ?_
    clear t s73 H
    -- before the instruction
    have kn3 : KN (begS σ w a) (xK w) := by
      have := KN_up (S := yS w) ai kn (τ := begS σ w a) (fun k s q => bs_I (by omega) (by omega) (by omega) (by omega)) (fun s q => bs_L (by omega)) bs_k
      rw [← ha] at this
      exact this
    obtain ⟨nx, enx⟩ : ∃ nx : Int, nx = if fL (p (yA w)) = 0 then yA w + 2 else yA w + 1 := ⟨_, rfl⟩
    rw [← enx] at z
    obtain ⟨σ4, e4⟩ : ∃ σ4, σ4 = mxS (sI (begS σ w a) 80 88 nx) (yS w) (p (yA w)) := ⟨_, rfl⟩
    rw [← e4] at z
    have g4 : ∀ k s, ¬ (k = 80 ∧ (s = 83 ∨ s = 84 ∨ s = 88 ∨ s = 89)) → ¬ (k = 138 ∧ (s = 1 ∨ s = 5)) → ¬ k = 139 → ¬ k = 141 → gI σ4 k s = gI σ k s := fun k s q1 q2 q3 q4 => by
      rw [e4, mx_I (by omega), gI_sI, if_neg (by omega), (bs_I (by omega) (by omega) (by omega) (by omega))]
    have l4 : ∀ k s, ¬ k = 140 → gL σ4 k s = gL σ k s := fun k s q => by rw [e4, mx_L, gL_sI, bs_L (by omega)]
    have w4 : wq σ4 σ := ⟨fun k s q => by rw [e4, mx_I (by omega), gI_sI, if_neg (by omega), (bs_I (by omega) (by omega) (by omega) (by omega))], fun k s q => l4 k s (by omega), by rw [e4, mx_r]; exact rc_r 10⟩
    have kr4 : KR σ4 (yNn w) (yH w) := fun k hk => by
      rw [g4 _ _ (by omega) (by omega) (by omega) (by omega), g4 _ _ (by omega) (by omega) (by omega) (by omega), g4 _ _ (by omega) (by omega) (by omega) (by omega), g4 _ _ (by omega) (by omega) (by omega) (by omega), g4 _ _ (by omega) (by omega) (by omega) (by omega)]
      exact kr k hk
    have rows4 : RHr σ4 (yNn w) (yH w) := fun k hk => JSt_fr (fun k s h1 h2 => g4 _ _ (by omega) (by omega) (by omega) (by omega)) (fun k s h1 h2 => l4 _ _ (by omega)) (rows k hk)
    have wts4 : RWt σ4 (yM w) (yW w) := fun j hj => by
      obtain ⟨q1, q2, q3, q4⟩ := wts j hj
      exact ⟨JSt_fr (fun k s h1 h2 => g4 _ _ (by omega) (by omega) (by omega) (by omega)) (fun k s h1 h2 => l4 _ _ (by omega)) q1, (g4 _ _ (by omega) (by omega) (by omega) (by omega)).trans q2, (g4 _ _ (by omega) (by omega) (by omega) (by omega)).trans q3, (g4 _ _ (by omega) (by omega) (by omega) (by omega)).trans q4⟩
    have kn4 : KN σ4 (xK w) := KN_fr (fun k s q => by rw [e4, mx_I (by omega), gI_sI, if_neg (by omega)]) (fun s => by rw [e4, mx_L, gL_sI]) kn3
    have v1 : gI σ4 138 1 = yG w + 1 := by rw [e4, mx_I (by omega), gI_sI, if_neg (by omega)]; exact bs_v.2.2.2
    have v2 : gI σ4 138 2 = (yNn w : Int) := (g4 _ _ (by omega) (by omega) (by omega) (by omega)).trans d2
    have v4 : gI σ4 138 4 = w.2.2.2.1 := (g4 _ _ (by omega) (by omega) (by omega) (by omega)).trans d4
    have v84 : gI σ4 80 84 = yG w + 1 := by rw [e4, mx_I (by omega), gI_sI, if_neg (by omega)]; exact bs_v.2.1
    have v83 : gI σ4 80 83 = yF w + 1 := by rw [e4, mx_I (by omega), gI_sI, if_neg (by omega)]; exact bs_v.1
    have v89 : gI σ4 80 89 = 0 := by rw [e4, mx_I (by omega), gI_sI, if_neg (by omega)]; exact bs_v.2.2.1
    have v72 : gI σ4 80 72 = (yNn w : Int) := (g4 _ _ (by omega) (by omega) (by omega) (by omega)).trans c3
    have v78 : gI σ4 80 78 = (yM w : Int) := (g4 _ _ (by omega) (by omega) (by omega) (by omega)).trans c4
    have v82 : gI σ4 80 82 = (yK w : Int) := (g4 _ _ (by omega) (by omega) (by omega) (by omega)).trans k82
    have v87 : gI σ4 80 87 = yA w := (g4 _ _ (by omega) (by omega) (by omega) (by omega)).trans h87
    -- the most frames
    have v5y : (fOp (p (yA w)) = 133 ∧ fS (p (yA w)) = 1) ∧ ¬ sF (yS w) = 4 → gI σ4 138 5 = max w.2.2.2.2.1 ((sF (yS w) : Int) + 1) := fun hc => by
      have e5 : gI (sI (begS σ w a) 80 88 nx) 138 5 = w.2.2.2.2.1 := by rw [gI_sI, if_neg (by omega), (bs_I (by omega) (by omega) (by omega) (by omega))]; exact d5
      rw [e4]
      unfold mxS
      rw [if_pos hc, gI_sI, if_pos ⟨rfl, rfl⟩, e5]
    have v5n : ¬ ((fOp (p (yA w)) = 133 ∧ fS (p (yA w)) = 1) ∧ ¬ sF (yS w) = 4) → gI σ4 138 5 = w.2.2.2.2.1 := fun hc => by
      rw [e4]
      unfold mxS
      rw [if_neg hc, gI_sI, if_neg (by omega), (bs_I (by omega) (by omega) (by omega) (by omega))]
      exact d5
    clear e4 enx g4 l4 kn3
    have sf : ¬ ((fOp (p (yA w)) = 133 ∧ fS (p (yA w)) = 1) ∧ ¬ sF (yS w) = 4) → frJ (yS w) (yT w) (stpJ E (yS w) (yA w) (p (yA w)) (p (yA w + 1)) (yT w)) := fun hc => stp_f hc
    have se : (fOp (p (yA w)) = 133 ∧ fS (p (yA w)) = 1) ∧ ¬ sF (yS w) = 4 → ∃ S1, stpJ E (yS w) (yA w) (p (yA w)) (p (yA w + 1)) (yT w) = (0, some (goal (yA w) (p (yA w)), S1), none, yT w) ∧ sF S1 = sF (yS w) + 1 := fun hc => ⟨_, stp_e hc, rfl⟩
    generalize er : stpJ E (yS w) (yA w) (p (yA w)) (p (yA w + 1)) (yT w) = r at z sf se
    obtain ⟨z1, z2⟩ := z
    by_cases hz : r.1 = 0
    · have z2 := z2 hz
      clear z1
      obtain ⟨rf, ra, rb, rt⟩ := r
      have hz : rf = 0 := hz
      subst hz
      rcases ra with _ | ⟨n1, S1⟩
      · -- the way ends
        have z2 : jpe σ4 τ (yNn w) (yH w) (yK w) rt := z2
        obtain ⟨y1, y2, y3, y4, y5⟩ := z2
        rw [v83] at y4
        have hc : ¬ ((fOp (p (yA w)) = 133 ∧ fS (p (yA w)) = 1) ∧ ¬ sF (yS w) = 4) := fun hc => by
          obtain ⟨S1, q, _⟩ := se hc
          cases q
        have e := ins_e c er
        have rw' := jk_row y5 N250 kK rows4
        unfold stE
        rw [e]
        refine ⟨wq_t (wq_jk y5) w4, fun q => absurd rfl q, fun _ => ⟨y1, ⟨⟨?_, y3, ?_, ?_⟩, y4, fun k hk => ?_, jk_wt y5 x4 kW wts4, ⟨⟨?_, ?_, ?_, ?_⟩, jk_kn y5 kn4⟩⟩, fun _ => y2, fun q => (by cases q)⟩⟩
        · exact (y5.1 _ _ (by omega) (by omega)).trans v84
        · exact (y5.1 _ _ (by omega) (by omega)).trans v72
        · exact (y5.1 _ _ (by omega) (by omega)).trans v78
        · show JSt τ (1 + k) (kS (endK (yH w) (yK w) (yF w + 1) k))
          rw [(end_same _ _ _ k).1]
          exact rw' k hk
        · exact (y5.1 _ _ (by omega) (by omega)).trans v1
        · exact (y5.1 _ _ (by omega) (by omega)).trans v2
        · exact (y5.1 _ _ (by omega) (by omega)).trans v4
        · exact (y5.1 _ _ (by omega) (by omega)).trans (v5n hc)
      · rcases rb with _ | ⟨g, S2⟩
        · -- one way
          have z2 : jpo σ4 τ 0 S1 n1 (gI σ4 80 89) rt := z2
          obtain ⟨y1, y2, y3⟩ := z2
          obtain ⟨y4, y5, y6, y7⟩ := y3 rfl
          have e := ins_1 c er
          have y8 := jk_of y1
          have v5 : gI σ4 138 5 = max w.2.2.2.2.1 (sF S1 : Int) := by
            by_cases hc : (fOp (p (yA w)) = 133 ∧ fS (p (yA w)) = 1) ∧ ¬ sF (yS w) = 4
            · obtain ⟨S3, q, q2⟩ := se hc
              cases q
              rw [v5y hc, q2]
              rfl
            · have := (sf hc).1 _ _ rfl
              rw [v5n hc, Int.max_eq_left]
              omega
          unfold stE
          rw [e]
          refine ⟨wq_t (wq_jq y1) w4, fun q => absurd rfl q, fun _ => ⟨y2, ⟨⟨?_, y7, ?_, ?_⟩, fun k hk => ?_, jk_row y8 N250 kK rows4, jk_wt y8 x4 kW wts4, ⟨⟨?_, ?_, ?_, ?_⟩, jk_kn y8 kn4⟩⟩, fun q => (by cases q), fun _ => ⟨y6.trans v89, ⟨y4, ?_, ?_⟩, y5⟩⟩⟩
          · exact (y1.1 _ _ (by omega)).trans v84
          · exact (y1.1 _ _ (by omega)).trans v72
          · exact (y1.1 _ _ (by omega)).trans v78
          · rw [y1.1 _ _ (by omega), y1.1 _ _ (by omega), y1.1 _ _ (by omega), y1.1 _ _ (by omega), y1.1 _ _ (by omega)]
            exact kr4 k hk
          · exact (y1.1 _ _ (by omega)).trans v1
          · exact (y1.1 _ _ (by omega)).trans v2
          · exact (y1.1 _ _ (by omega)).trans v4
          · exact (y1.1 _ _ (by omega)).trans v5
          · exact (y1.1 _ _ (by omega)).trans v82
          · exact (y1.1 _ _ (by omega)).trans v83
        · -- two ways
          have hc : ¬ ((fOp (p (yA w)) = 133 ∧ fS (p (yA w)) = 1) ∧ ¬ sF (yS w) = 4) := fun hc => by
            obtain ⟨S3, q, _⟩ := se hc
            cases q
          have v5 := v5n hc
          have z2 : if gI σ4 80 78 = 60 then gI τ 80 90 = 12 ∧ jq τ σ4 else jpt σ4 τ S1 S2 n1 g rt := z2
          by_cases m60 : yM w = 60
          · rw [if_pos (by rw [v78, m60]; rfl)] at z2
            obtain ⟨y1, y2⟩ := z2
            have e := ins_6 c m60 er
            unfold stE
            rw [e]
            refine ⟨wq_t (wq_jq y2) w4, fun _ => ⟨y1, (y2.1 _ _ (by omega)).trans v87, ⟨⟨(y2.1 _ _ (by omega)).trans v1, (y2.1 _ _ (by omega)).trans v2, (y2.1 _ _ (by omega)).trans v4, (y2.1 _ _ (by omega)).trans v5⟩, jk_kn (jk_of y2) kn4⟩⟩, fun q => absurd q (show ¬ (12 : Int) = 0 by decide)⟩
          · rw [if_neg (by rw [v78]; omega)] at z2
            obtain ⟨ρ, q1, q2, q3, q4, q5, q6, q7, q8, q9, q10⟩ := z2
            have e := ins_2 c m60 er
            have hm : gI ρ 80 78 = (yM w : Int) := (q1.1 _ _ (by omega)).trans v78
            have hl : gI ρ 80 82 = (yK w : Int) := (q1.1 _ _ (by omega)).trans v82
            have hf : gI ρ 80 83 = yF w + 1 := (q1.1 _ _ (by omega)).trans v83
            have h4 := JSt_4 q4.1.2 q4.2.1 q3
            have u1 := jk_of q1
            have u5 := jk_of q5
            have krρ : KR ρ (yNn w) (yH w) := fun k hk => by
              rw [q1.1 _ _ (by omega), q1.1 _ _ (by omega), q1.1 _ _ (by omega), q1.1 _ _ (by omega), q1.1 _ _ (by omega)]
              exact kr4 k hk
            have krw := wa_KR (g := g) hm hl h4 krρ
            have roww := wa_row (g := g) hm hl h4 N250 kK (jk_row u1 N250 kK rows4)
            have wtw := wa_wt (g := g) hm hl h4 (by omega) kW q3 q4 hf (jk_wt u1 x4 kW wts4)
            have knw := wa_kn (g := g) hm hl h4 (jk_kn u1 kn4)
            obtain ⟨b1, b2, b3, b4, b5, b6⟩ := wa_v (g := g) hm hl h4
            have wI : ∀ k s, (k = 80 ∧ (s = 72 ∨ s = 82 ∨ s = 83 ∨ s = 84)) ∨ (k = 138 ∧ (s = 1 ∨ s = 2 ∨ s = 5)) → gI τ k s = gI σ4 k s := fun k s q => by
              rw [q5.1 _ _ (by omega), wa_I hm hl h4 (by omega), q1.1 _ _ (by omega)]
            have kW' : ∀ j, j < yM w + 1 → kst (wtS (if j = yM w then (S2, g, yK w, yF w + 1) else yW w j)) := fun j hj => by
              by_cases e : j = yM w
              · rw [if_pos e]
                exact q4
              · rw [if_neg e]
                exact kW j (by omega)
            unfold stE
            rw [e]
            refine ⟨wq_t (wq_jq q5) (wq_t (wa_wq hm hl h4) (wq_t (wq_jq q1) w4)), fun q => absurd rfl q, fun _ => ⟨q6, ⟨⟨?_, q10, ?_, ?_⟩, fun k hk => ?_, fun k hk => ?_, jk_wt u5 (show yM w + 1 ≤ 60 by omega) kW' wtw, ⟨⟨?_, ?_, ?_, ?_⟩, jk_kn u5 knw⟩⟩, fun q => (by cases q), fun _ => ⟨q9.trans v89, ⟨q7, ?_, ?_⟩, q8⟩⟩⟩
            · exact (wI _ _ (by omega)).trans v84
            · exact (wI _ _ (by omega)).trans v72
            · show gI τ 80 78 = ((yM w + 1 : Nat) : Int)
              rw [q5.1 _ _ (by omega), b1]
              rfl
            · rw [q5.1 _ _ (by omega), q5.1 _ _ (by omega), q5.1 _ _ (by omega), q5.1 _ _ (by omega), q5.1 _ _ (by omega)]
              exact krw k hk
            · show JSt τ (1 + k) (kS (upK (yH w) (yK w) _ k))
              have hh := jk_row u5 N250 kK roww k hk
              unfold upK
              by_cases e : k = yK w
              · rw [if_pos e, ← e]
                exact hh
              · rw [if_neg e]
                exact hh
            · exact (wI _ _ (by omega)).trans v1
            · exact (wI _ _ (by omega)).trans v2
            · show gI τ 138 4 = max w.2.2.2.1 ((yM w : Int) + 1)
              rw [q5.1 _ _ (by omega), b2, q1.1 _ _ (by omega), v4]
            · exact (wI _ _ (by omega)).trans v5
            · exact (wI _ _ (by omega)).trans v82
            · exact (wI _ _ (by omega)).trans v83
    · -- a fault
      have z1 := z1 hz
      obtain ⟨y1, y2⟩ := z1
      have hc : ¬ ((fOp (p (yA w)) = 133 ∧ fS (p (yA w)) = 1) ∧ ¬ sF (yS w) = 4) := fun hc => by
        obtain ⟨S3, q, _⟩ := se hc
        exact hz (by rw [q])
      have v5 := v5n hc
      have e := ins_f (E := E) (p := p) (w := w) c (by rw [er]; exact hz)
      rw [er] at e
      unfold stE
      rw [e]
      refine ⟨wq_t (wq_jq y2) w4, fun _ => ⟨y1, (y2.1 _ _ (by omega)).trans v87, ⟨⟨(y2.1 _ _ (by omega)).trans v1, (y2.1 _ _ (by omega)).trans v2, (y2.1 _ _ (by omega)).trans v4, (y2.1 _ _ (by omega)).trans v5⟩, jk_kn (jk_of y2) kn4⟩⟩, fun q => absurd q hz⟩
end STEP2
