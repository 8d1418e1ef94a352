/-! ===== the reference's judge: helpers; EXIT; pairs ===== -/
section HP3
variable {σ τ ρ : MS} {S : ST} {E : EV} {t : Int} {N l m : Nat} {K : Nat → KT}
theorem EO_jq {E : EV} (h : jq τ σ) (o : EO σ E) : EO τ E := jq_EO h o
/-- behind a helper's fault -/
theorem L531f {x1 x2 : Int} {x3 : Option MV} {f n : Int} (h0 : gI σ 80 90 = 0) (hf : ¬ f = 0) (q : sqc ρ (flt σ f)) (hj : (hlpJ E S x1 n t).1 = f) : okc (RR (lkB tb531) (B531_298, [some (mR (some 80)), some (mI x1), some (mI x2), x3], [], ρ)) none (fun τ => jwo σ τ N K l (hlpJ E S x1 n t)) := by
  refine okc_q (ls := [some (mR (some 80)), some (mI x1), some (mI x2), none]) (by repeat (first | exact lq_nil | refine lq_cons (Or.inr rfl) ?_ | refine lq_cons (Or.inl rfl) ?_)) ?_
  have g : gI ρ 80 90 = f := by rw [sqc_I q (by omega) (by omega), fl_g, h0, fst0]
  have g' : ¬ gI ρ 80 90 = 0 := by rw [g]; exact hf
  simp only [e531_298, Option.getD_some, Option.bind_some, Option.toList_some, Option.toList_none, List.cons_append, List.nil_append, and_self, and_true, true_and, false_and, and_false, ite_self, not_true_eq_false, not_false_eq_true, reduceIte, Nat.reduceEqDiff, ab_I, ab_L, ab_R, ao_I, ao_L, ao_R, gL_sL, gI_sI, gR_sR, gI_sL, gI_sR, gL_sI, gL_sR, gR_sI, gR_sL, g']
  exact okc_s (jwo_f hf hj ⟨g, jq_t (jq_sq q) jq_f⟩)
/-- a number is answered -/
theorem L531n {x1 : Int} {x3 : Option MV} {S1 : ST} (hF : 1 ≤ sF S1 ∧ sF S1 ≤ 4) (j : J0 ρ S1) (q : jq ρ σ) (g : gI ρ 80 90 = 0 ∧ gI ρ 80 88 = gI σ 80 88 ∧ gI ρ 80 89 = gI σ 80 89 ∧ gI ρ 80 85 = t) (hj : hlpJ E S x1 (gI σ 80 88) t = (0, some (gI σ 80 88, wV (unsA S1) 0 (numV (if x1 = 7 then wideN 4 else anyN))), none, t)) : okc (RR (lkB tb531) (B531_298, [some (mR (some 80)), some (mI x1), some (mI 0), x3], [], ρ)) none (fun τ => jwo σ τ N K l (hlpJ E S x1 (gI σ 80 88) t)) := by
  refine okc_q (ls := [some (mR (some 80)), some (mI x1), some (mI 0), none]) (by repeat (first | exact lq_nil | refine lq_cons (Or.inr rfl) ?_ | refine lq_cons (Or.inl rfl) ?_)) ?_
  obtain ⟨g1, g2, g3, g4⟩ := g
  have t25 := T525 j.1 hF
  have ju := ua_J0 hF j
  have qu : nq (unA ρ (26 * (sF S1 - 1)) 5) ρ := ⟨fun k s p => ua_I (by omega), fun k s p => ua_L (by omega), ua_r 5⟩
  generalize unA ρ (26 * (sF S1 - 1)) 5 = ρ1 at *
  have n0 := at_n ju hF (r := 0) (by omega)
  rw [show ((0 : Nat) : Int) = 0 from rfl] at n0
  have b0 := at_b hF (r := 0) (by omega)
  have t36 := T436 (σ := ρ1) b0.1 b0.2
  rw [Int.toNat_natCast] at t36
  have e0 : sF (unsA S1) = sF S1 := rfl
  rw [e0] at n0
  have t37 := T437 (σ := wrV ρ1 (26 * (sF S1 - 1) + 0) (numV anyN)) (n := 4) b0.1 b0.2 (by omega)
  rw [Int.toNat_natCast, show ((4 : Nat) : Int) = 4 from rfl, wrV_same] at t37
  have fin : ∀ n : N6, jpo σ (wrV ρ1 (26 * (sF S1 - 1) + 0) (numV n)) 0 (wV (unsA S1) 0 (numV n)) (gI σ 80 88) (gI σ 80 89) t := fun n => by
    refine ⟨jq_t (jq_w (by omega)) (jq_t (nq_jq qu) q), by rw [gW80, nq_80 qu, g1], fun _ => ⟨J0_wV (S := unsA S1) hF.2 ju, by rw [gW80, nq_80 qu, g2], by rw [gW80, nq_80 qu, g3], by rw [gW80, nq_80 qu, g4]⟩⟩
  rw [hj]
  by_cases c : x1 = 7
  · rw [if_pos c]
    simp only [e531_298, e531_310, e531_315, e531_325, e531_337, Option.getD_some, Option.bind_some, Option.toList_some, Option.toList_none, List.cons_append, List.nil_append, and_self, and_true, true_and, false_and, and_false, ite_self, not_true_eq_false, not_false_eq_true, reduceIte, Nat.reduceEqDiff, ab_I, ab_L, ab_R, ao_I, ao_L, ao_R, gL_sL, gI_sI, gR_sR, gI_sL, gI_sR, gL_sI, gL_sR, gR_sI, gR_sL, g1, t25, n0, t36, c, t37]
    exact okc_s (jwo_1 (fin _))
  · rw [if_neg c]
    simp only [e531_298, e531_310, e531_315, e531_325, Option.getD_some, Option.bind_some, Option.toList_some, Option.toList_none, List.cons_append, List.nil_append, and_self, and_true, true_and, false_and, and_false, ite_self, not_true_eq_false, not_false_eq_true, reduceIte, Nat.reduceEqDiff, ab_I, ab_L, ab_R, ao_I, ao_L, ao_R, gL_sL, gI_sI, gR_sR, gI_sL, gI_sR, gL_sI, gL_sR, gR_sI, gR_sL, g1, t25, n0, t36, c]
    exact okc_s (jwo_1 (fin _))
set_option maxHeartbeats 2000000 in
theorem T531 {h : Int} (H : HJ σ S E t N K l m) (hE : okE E) : okc (MM 531 [mR (some 80), mI h] σ) none (fun τ => jwo σ τ N K l (hlpJ E S h (gI σ 80 88) t)) := by
  have H' := H
  obtain ⟨⟨h1, h2, h3, h4⟩, ⟨h5, h6, h7⟩, -, -, -, -⟩ := H'
  have hF := h2.1
  have hH := h2.2.2.2.2.2.1
  have P : pH σ S E t := ⟨⟨h1, h2, h3, h4⟩, h5, hE⟩
  have G : gI σ 80 90 = 0 ∧ gI σ 80 88 = gI σ 80 88 ∧ gI σ 80 89 = gI σ 80 89 ∧ gI σ 80 85 = t := ⟨h5, rfl, rfl, h6⟩
  have J1 : ¬ hlpF E S h = 0 → (hlpJ E S h (gI σ 80 88) t).1 = hlpF E S h := fun z => by
    unfold hlpJ
    rw [if_pos z]
  have Gs : ∀ ρ, sqc ρ σ → gI ρ 80 90 = 0 ∧ gI ρ 80 88 = gI σ 80 88 ∧ gI ρ 80 89 = gI σ 80 89 ∧ gI ρ 80 85 = t := fun ρ q => ⟨(sqc_I q (by omega) (by omega)).trans h5, sqc_I q (by omega) (by omega), sqc_I q (by omega) (by omega), (sqc_I q (by omega) (by omega)).trans h6⟩
  have Jn : hlpF E S h = 0 → ¬ h = 1 → ¬ h = 131 → hlpJ E S h (gI σ 80 88) t = (0, some (gI σ 80 88, wV (unsA (hlpS S h)) 0 (numV (if h = 7 then wideN 4 else anyN))), none, t) := fun z z1 z2 => by
    unfold hlpJ
    rw [if_neg (not_not_intro z), if_neg z1, if_neg z2]
  -- a place that may be 0 is answered
  have mk : ∀ (ρ : MS) (v k : Int) (x3 : Option MV), sqc ρ σ → 1 ≤ v → v ≤ 100 → k = (if h = 1 then 6 else 10) → (h = 131 → (sH S).length < 64) → hlpJ E S h (gI σ 80 88) t = (0, some (gI σ 80 88, ((wV (unsA S) 0 (mkV k (v - 1) (t + 1))).1, (wV (unsA S) 0 (mkV k (v - 1) (t + 1))).2.1, sB S, if h = 131 then sH S ++ [t + 1] else sH S)), none, t + 1) → okc (RR (lkB tb531) (B531_298, [some (mR (some 80)), some (mI h), some (mI v), none], [], ρ)) none (fun τ => jwo σ τ N K l (hlpJ E S h (gI σ 80 88) t)) := by
    intro ρ v k x3 q v1 v2 hk hl hj
    have j : J0 ρ S := JSt_sq q (by omega) hF.2 h1
    obtain ⟨g1, g2, g3, g4⟩ := Gs ρ q
    have t25 := T525 j.1 hF
    have ju := ua_J0 hF j
    have qu : nq (unA ρ (26 * (sF S - 1)) 5) ρ := ⟨fun k s p => ua_I (by omega), fun k s p => ua_L (by omega), ua_r 5⟩
    generalize unA ρ (26 * (sF S - 1)) 5 = ρ1 at *
    have n0 := at_n ju hF (r := 0) (by omega)
    rw [show ((0 : Nat) : Int) = 0 from rfl] at n0
    have b0 := at_b hF (r := 0) (by omega)
    have e0 : sF (unsA S) = sF S := rfl
    rw [e0] at n0
    have nv : ¬ v = 0 := by omega
    have ht0 : 0 ≤ t := h2.2.2.2.2.2.2
    have g4' : gI ρ1 80 85 = t := (nq_80 qu).trans g4
    have et : w32 (t + 1) = t + 1 := w32_i (by omega) (by omega)
    have ev : w32 (v - 1) = v - 1 := w32_i (by omega) (by omega)
    have s364 : RR (lkB tb531) (B531_298, [some (mR (some 80)), some (mI h), some (mI v), none], [], ρ) = RR (lkB tb531) (B531_364, [some (mR (some 80)), some (mI h), some (mI v), some (mI ((26 * (sF S - 1) + 0 : Nat) : Int))], [mI k, mI ((26 * (sF S - 1) + 0 : Nat) : Int), mR (some 80)], sI ρ1 80 85 (t + 1)) := by
      by_cases c : h = 1
      · rw [if_pos c] at hk
        simp only [e531_298, e531_310, e531_315, Option.getD_some, Option.bind_some, Option.toList_some, Option.toList_none, List.cons_append, List.nil_append, and_self, and_true, true_and, false_and, and_false, ite_self, not_true_eq_false, not_false_eq_true, reduceIte, Nat.reduceEqDiff, ab_I, ab_L, ab_R, ao_I, ao_L, ao_R, gL_sL, gI_sI, gR_sR, gI_sL, gI_sR, gL_sI, gL_sR, gR_sI, gR_sL, g1, t25, n0, nv, c, g4', et, hk]
      · rw [if_neg c] at hk
        simp only [e531_298, e531_310, e531_315, Option.getD_some, Option.bind_some, Option.toList_some, Option.toList_none, List.cons_append, List.nil_append, and_self, and_true, true_and, false_and, and_false, ite_self, not_true_eq_false, not_false_eq_true, reduceIte, Nat.reduceEqDiff, ab_I, ab_L, ab_R, ao_I, ao_L, ao_R, gL_sL, gI_sI, gR_sR, gI_sL, gI_sR, gL_sI, gL_sR, gR_sI, gR_sL, g1, t25, n0, nv, c, g4', et, hk]
    rw [s364]
    have t31 := T431 (σ := sI ρ1 80 85 (t + 1)) (k := k) (w := v - 1) (t := t + 1) b0 (by rw [hk]; split <;> omega)
    rw [Int.toNat_natCast] at t31
    have g85 : gI (sI ρ1 80 85 (t + 1)) 80 85 = t + 1 := by rw [gI_sI, if_pos ⟨rfl, rfl⟩]
    have jm : J0 (wrV (sI ρ1 80 85 (t + 1)) (26 * (sF S - 1) + 0) (mkV k (v - 1) (t + 1))) (wV (unsA S) 0 (mkV k (v - 1) (t + 1))) := J0_wV (S := unsA S) hF.2 (JSt_sI (by omega) ju)
    have qm : nq (wrV (sI ρ1 80 85 (t + 1)) (26 * (sF S - 1) + 0) (mkV k (v - 1) (t + 1))) (sI ρ1 80 85 (t + 1)) := by
      refine ⟨fun k s z => ?_, fun k s z => ?_, rfl⟩
      · by_cases y : s = 26 * (sF S - 1) + 0
        · exact gI_wrV_o (by omega)
        · exact gI_wrV_s y
      · by_cases y : s = 26 * (sF S - 1) + 0
        · exact gL_wrV_o (by omega)
        · exact gL_wrV_s y
    generalize wrV (sI ρ1 80 85 (t + 1)) (26 * (sF S - 1) + 0) (mkV k (v - 1) (t + 1)) = ρ2 at *
    have q2 : jq ρ2 σ := jq_t (nq_jq qm) (jq_t (jq_I (by omega)) (jq_t (nq_jq qu) (jq_sq q)))
    have o2 : ∀ s, ¬ s = 85 → gI ρ2 80 s = gI ρ 80 s := fun s hs => by rw [nq_80 qm, gI_sI, if_neg (by omega), nq_80 qu]
    have o85 : gI ρ2 80 85 = t + 1 := (nq_80 qm).trans g85
    rw [hj]
    by_cases c : h = 131
    · rw [if_pos c]
      have len : gI ρ2 125 0 = ((sH S).length : Int) := jm.2.2.2.1
      have lt := hl c
      have i2 : 0 ≤ ((sH S).length : Int) ∧ ((sH S).length : Int) < 20096 := by omega
      have e1 : w32 (((sH S).length : Int) + 1) = ((sH S).length : Int) + 1 := w32_i (by omega) (by omega)
      simp only [e531_364, e531_374, Option.getD_some, Option.bind_some, Option.toList_some, Option.toList_none, List.cons_append, List.nil_append, and_self, and_true, true_and, false_and, and_false, ite_self, not_true_eq_false, not_false_eq_true, reduceIte, Nat.reduceEqDiff, ab_I, ab_L, ab_R, ao_I, ao_L, ao_R, gL_sL, gI_sI, gR_sR, gI_sL, gI_sR, gL_sI, gL_sR, gR_sI, gR_sL, ev, g85, t31, c, g_125, g_126, Int.reduceLT, Int.reduceLE, show (0 : Int).toNat = 0 from rfl, len, i2.1, i2.2, Int.toNat_natCast, o85, e1]
      clear e1 ev
      refine okc_s (jwo_1 ⟨jq_t (jq_I (by omega)) (jq_t (jq_I (by omega)) q2), ?_, fun _ => ⟨?_, ?_, ?_, ?_⟩⟩)
      · rw [gI_sI, if_neg (by omega), gI_sI, if_neg (by omega), o2 _ (by decide), g1]
      · obtain ⟨j1, j2, j3, j4, j5⟩ := jm
        refine ⟨?_, fun k hk => ?_, fun f f1 f2 => ?_, ?_, fun i hi => ?_⟩
        · rw [gI_sI, if_neg (by omega), gI_sI, if_neg (by omega)]
          exact j1
        · rw [aV_sI (by omega), aV_sI (by omega)]
          exact j2 k hk
        · rw [gI_sI, if_neg (by omega), gI_sI, if_neg (by omega)]
          exact j3 f f1 f2
        · rw [gI_sI, if_pos ⟨rfl, rfl⟩]
          show _ = (((sH S ++ [t + 1]).length : Nat) : Int)
          rw [List.length_append]
          rfl
        · have hi : i < (sH S ++ [t + 1]).length := hi
          rw [List.length_append] at hi
          have hi : i < (sH S).length + 1 := hi
          show _ = (sH S ++ [t + 1]).getD i 0
          rw [show 64 * 0 + i = i by omega, gI_sI, if_neg (by omega), gI_sI]
          by_cases z : i = (sH S).length
          · rw [if_pos ⟨rfl, z⟩, z, getD_end]
          · rw [if_neg (by omega), getD_app (by omega)]
            have := j5 i (by show i < (sH S).length; omega)
            rwa [show 64 * 0 + i = i by omega] at this
      · rw [gI_sI, if_neg (by omega), gI_sI, if_neg (by omega), o2 _ (by decide), g2]
      · rw [gI_sI, if_neg (by omega), gI_sI, if_neg (by omega), o2 _ (by decide), g3]
      · rw [gI_sI, if_neg (by omega), gI_sI, if_neg (by omega), o85]
    · rw [if_neg c]
      simp only [e531_364, e531_374, Option.getD_some, Option.bind_some, Option.toList_some, Option.toList_none, List.cons_append, List.nil_append, and_self, and_true, true_and, false_and, and_false, ite_self, not_true_eq_false, not_false_eq_true, reduceIte, Nat.reduceEqDiff, ab_I, ab_L, ab_R, ao_I, ao_L, ao_R, gL_sL, gI_sI, gR_sR, gI_sL, gI_sR, gL_sI, gL_sR, gR_sI, gR_sL, ev, g85, t31, c]
      exact okc_s (jwo_1 ⟨q2, by rw [o2 _ (by decide), g1], fun _ => ⟨jm, by rw [o2 _ (by decide), g2], by rw [o2 _ (by decide), g3], o85⟩⟩)
  by_cases a : h = 1 ∨ h = 2 ∨ h = 3
  · obtain ⟨v, hv, tv⟩ := T532 P a
    have s113 : MM 531 [mR (some 80), mI h] σ = (MM 532 [mR (some 80), mI h] σ).bind fun q => RR (lkB tb531) (B531_113, [some (mR (some 80)), some (mI h), some (mI 0), none], q.1.toList ++ [], q.2) := by
      rcases a with a | a | a
      all_goals simp only [M531, e531_0, Option.getD_some, Option.bind_some, Option.toList_some, Option.toList_none, List.cons_append, List.nil_append, and_self, and_true, true_and, false_and, and_false, ite_self, not_true_eq_false, not_false_eq_true, reduceIte, Nat.reduceEqDiff, ab_I, ab_L, ab_R, ao_I, ao_L, ao_R, gL_sL, gI_sI, gR_sR, gI_sL, gI_sR, gL_sI, gL_sR, gR_sI, gR_sL, a, Int.reduceEq]
    rw [s113]
    refine okc_b tv fun ρ q => ?_
    simp only [Option.toList_some, List.cons_append, List.nil_append, e531_113]
    by_cases z : hlpF E S h = 0
    · rw [z, flt_0] at q
      have v' := hv z
      by_cases c : h = 1
      · rw [if_pos c] at v'
        have f1 : wntM E (rgV S 1) 0 1 = 0 := by
          have : hlpF E S h = fst (wntM E (rgV S 1) 0 1) (wntB E S (rgV S 2) (E.2.1 (vw (rgV S 1)).toNat)) := by
            unfold hlpF
            rw [if_pos (Or.inl c)]
          exact (fst_0 (this.symm.trans z)).1
        obtain ⟨m1, m2, m3, m4⟩ := maps_k P (r := 1) (by omega) (by omega) f1
        refine mk ρ v 6 none q (by omega) (by omega) (by rw [if_pos c]) (fun y => by omega) ?_
        unfold hlpJ
        rw [if_neg (not_not_intro z), if_pos c, v', show vw (rgV S 1) + 1 - 1 = vw (rgV S 1) by omega, if_neg (by omega)]
        rfl
      · rw [if_neg c] at v'
        rw [v']
        have n131 : ¬ h = 131 := by omega
        have e : hlpS S h = S := by
          unfold hlpS
          rw [if_neg (by omega), if_neg (by omega), if_neg (by omega)]
        have hj := Jn z c n131
        rw [e] at hj
        exact L531n hF (JSt_sq q (by omega) hF.2 h1) (jq_sq q) (Gs ρ q) hj
    · exact L531f h5 z q (J1 z)
  · have a1 : ¬ h = 1 := fun q => a (Or.inl q)
    have a2 : ¬ h = 2 := fun q => a (Or.inr (Or.inl q))
    have a3 : ¬ h = 3 := fun q => a (Or.inr (Or.inr q))
    by_cases c5 : h = 5 ∨ h = 7
    · have z : hlpF E S h = 0 := by
        unfold hlpF
        rw [if_neg (by omega), if_neg a2, if_pos c5]
      have e : hlpS S h = S := by
        unfold hlpS
        rw [if_neg (by omega), if_neg (by omega), if_neg (by omega)]
      have hj := Jn z a1 (by omega)
      rw [e] at hj
      have s298 : MM 531 [mR (some 80), mI h] σ = RR (lkB tb531) (B531_298, [some (mR (some 80)), some (mI h), some (mI 0), none], [], σ) := by
        rcases c5 with c | c
        all_goals simp only [M531, e531_0, Option.getD_some, Option.bind_some, Option.toList_some, Option.toList_none, List.cons_append, List.nil_append, and_self, and_true, true_and, false_and, and_false, ite_self, not_true_eq_false, not_false_eq_true, reduceIte, Nat.reduceEqDiff, ab_I, ab_L, ab_R, ao_I, ao_L, ao_R, gL_sL, gI_sI, gR_sR, gI_sL, gI_sR, gL_sI, gL_sR, gR_sI, gR_sL, c, Int.reduceEq]
      rw [s298]
      exact L531n hF h1 (jq_r _) G hj
    · have a5 : ¬ h = 5 := fun q => c5 (Or.inl q)
      have a7 : ¬ h = 7 := fun q => c5 (Or.inr q)
      by_cases c6 : h = 6
      · have un : hlpF E S h = fst (wntA (rgV S 2) (decide (vk (rgV S 2) = 1 ∧ ¬ jA (vn (rgV S 2)) = 0#64 ∧ ¬ 64#64 < jB (vn (rgV S 2))))) (wntB E S (rgV S 1) (jB (vn (rgV S 2))).toInt) := by
          unfold hlpF
          rw [if_neg (by omega), if_neg a2, if_neg c5, if_pos c6]
        have n2 := at_n h1 hF (r := 2) (by omega)
        rw [show ((2 : Nat) : Int) = 2 from rfl] at n2
        have v2 := at_nv h1 hF (r := 2) (by omega)
        have b2x := at_b hF (r := 2) (by omega)
        have t26 := T526 (σ := σ) (p := vk (rgV S 2) = 1 ∧ ¬ jA (vn (rgV S 2)) = 0#64 ∧ ¬ 64#64 < jB (vn (rgV S 2))) (d := inferInstance) b2x
        rw [Int.toNat_natCast, v2] at t26
        generalize e1 : wntA (rgV S 2) (decide (vk (rgV S 2) = 1 ∧ ¬ jA (vn (rgV S 2)) = 0#64 ∧ ¬ 64#64 < jB (vn (rgV S 2)))) = f1 at t26 un
        have k118 : gI σ 118 (26 * (sF S - 1) + 2) = vk (rgV S 2) := by rw [q118, v2]
        have k114 : gL σ 114 (26 * (sF S - 1) + 2) = jA (vn (rgV S 2)) := by rw [q114, v2]
        have k115 : gL σ 115 (26 * (sF S - 1) + 2) = jB (vn (rgV S 2)) := by rw [q115, v2]
        have i64 : iL 64 = 64#64 := by decide
        have s172 : MM 531 [mR (some 80), mI h] σ = RR (lkB tb531) (B531_172, [some (mR (some 80)), some (mI h), some (mI 0), some (mI ((26 * (sF S - 1) + 2 : Nat) : Int))], [], flt σ f1) := by
          by_cases d1 : vk (rgV S 2) = 1
          · by_cases d2 : jA (vn (rgV S 2)) = 0#64
            · rw [b2_no (fun q => q.2.1 d2)] at t26
              simp only [M531, e531_0, e531_125, e531_168, e531_169, Option.getD_some, Option.bind_some, Option.toList_some, Option.toList_none, List.cons_append, List.nil_append, and_self, and_true, true_and, false_and, and_false, ite_self, not_true_eq_false, not_false_eq_true, reduceIte, Nat.reduceEqDiff, ab_I, ab_L, ab_R, ao_I, ao_L, ao_R, gL_sL, gI_sI, gR_sR, gI_sL, gI_sR, gL_sI, gL_sR, gR_sI, gR_sL, a1, a2, a3, a5, c6, Int.reduceEq, n2, g_118, g_114, b2x.1, b2x.2, Int.toNat_natCast, k118, k114, d1, d2, t26]
            · by_cases d3 : 64#64 < jB (vn (rgV S 2))
              · rw [b2_no (fun q => q.2.2 d3)] at t26
                simp only [M531, e531_0, e531_125, e531_161, e531_168, e531_169, Option.getD_some, Option.bind_some, Option.toList_some, Option.toList_none, List.cons_append, List.nil_append, and_self, and_true, true_and, false_and, and_false, ite_self, not_true_eq_false, not_false_eq_true, reduceIte, Nat.reduceEqDiff, ab_I, ab_L, ab_R, ao_I, ao_L, ao_R, gL_sL, gI_sI, gR_sR, gI_sL, gI_sR, gL_sI, gL_sR, gR_sI, gR_sL, a1, a2, a3, a5, c6, Int.reduceEq, n2, g_118, g_114, g_115, b2x.1, b2x.2, Int.toNat_natCast, k118, k114, k115, d1, d2, i64, T389, b2_n', d3, t26]
              · rw [b2_yes ⟨d1, d2, d3⟩] at t26
                simp only [M531, e531_0, e531_125, e531_161, e531_168, e531_169, Option.getD_some, Option.bind_some, Option.toList_some, Option.toList_none, List.cons_append, List.nil_append, and_self, and_true, true_and, false_and, and_false, ite_self, not_true_eq_false, not_false_eq_true, reduceIte, Nat.reduceEqDiff, ab_I, ab_L, ab_R, ao_I, ao_L, ao_R, gL_sL, gI_sI, gR_sR, gI_sL, gI_sR, gL_sI, gL_sR, gR_sI, gR_sL, a1, a2, a3, a5, c6, Int.reduceEq, n2, g_118, g_114, g_115, b2x.1, b2x.2, Int.toNat_natCast, k118, k114, k115, d1, d2, i64, T389, b2_n', d3, t26]
          · rw [b2_no (fun q => d1 q.1)] at t26
            simp only [M531, e531_0, e531_125, e531_168, e531_169, Option.getD_some, Option.bind_some, Option.toList_some, Option.toList_none, List.cons_append, List.nil_append, and_self, and_true, true_and, false_and, and_false, ite_self, not_true_eq_false, not_false_eq_true, reduceIte, Nat.reduceEqDiff, ab_I, ab_L, ab_R, ao_I, ao_L, ao_R, gL_sL, gI_sI, gR_sR, gI_sL, gI_sR, gL_sI, gL_sR, gR_sI, gR_sL, a1, a2, a3, a5, c6, Int.reduceEq, n2, g_118, b2x.1, b2x.2, Int.toNat_natCast, k118, d1, t26]
        rw [s172]
        by_cases z : f1 = 0
        · have p := wnt_0 (e1.trans z)
          rw [z, fst0] at un
          rw [z, flt_0]
          have jb : (jB (vn (rgV S 2))).toNat ≤ 64 := by
            have := p.2.2
            rw [BitVec.lt_def] at this
            have e : (64#64).toNat = 64 := rfl
            omega
          have tB : (jB (vn (rgV S 2))).toInt = (((jB (vn (rgV S 2))).toNat : Nat) : Int) := by rw [toInt_c, if_pos (by omega)]
          have lB : lI (jB (vn (rgV S 2))) = (((jB (vn (rgV S 2))).toNat : Nat) : Int) := by
            unfold lI
            rw [tB]
            exact w32_i (by omega) (by omega)
          rw [tB] at un
          have t30 := T530 h1 h2 h3 h4 h5 (r := 1) (n := (jB (vn (rgV S 2))).toNat) (by omega) (by omega)
          rw [show ((1 : Nat) : Int) = 1 from rfl] at t30
          generalize 26 * (sF S - 1) + 2 = x at *
          have s191 : RR (lkB tb531) (B531_172, [some (mR (some 80)), some (mI h), some (mI 0), some (mI (x : Int))], [], σ) = (MM 530 [mR (some 80), mI 1, mI (((jB (vn (rgV S 2))).toNat : Nat) : Int)] σ).bind fun q => RR (lkB tb531) (B531_191, [some (mR (some 80)), some (mI h), some (mI 0), some (mI (x : Int))], q.1.toList ++ [], q.2) := by
            simp only [e531_172, Option.getD_some, Option.bind_some, Option.toList_some, Option.toList_none, List.cons_append, List.nil_append, and_self, and_true, true_and, false_and, and_false, ite_self, not_true_eq_false, not_false_eq_true, reduceIte, Nat.reduceEqDiff, ab_I, ab_L, ab_R, ao_I, ao_L, ao_R, gL_sL, gI_sI, gR_sR, gI_sL, gI_sR, gL_sI, gL_sR, gR_sI, gR_sL, h5, g_115, b2x.1, b2x.2, Int.toNat_natCast, k115, lB]
          rw [s191]
          refine okc_b t30 fun ρ q => ?_
          simp only [Option.toList_none, List.nil_append, e531_191]
          rw [← un] at q
          by_cases y : hlpF E S h = 0
          · rw [y, flt_0] at q
            have e : hlpS S h = S := by
              unfold hlpS
              rw [if_neg (by omega), if_neg (by omega), if_neg (by omega)]
            have hj := Jn y a1 (by omega)
            rw [e] at hj
            exact L531n hF (JSt_sq q (by omega) hF.2 h1) (jq_sq q) (Gs ρ q) hj
          · exact L531f h5 y q (J1 y)
        · have u : hlpF E S h = f1 := un.trans (if_neg z)
          have gz : ¬ gI (flt σ f1) 80 90 = 0 := by rw [fl_g, h5, fst0]; exact z
          simp only [e531_172, Option.getD_some, Option.bind_some, Option.toList_some, Option.toList_none, List.cons_append, List.nil_append, and_self, and_true, true_and, false_and, and_false, ite_self, not_true_eq_false, not_false_eq_true, reduceIte, Nat.reduceEqDiff, ab_I, ab_L, ab_R, ao_I, ao_L, ao_R, gL_sL, gI_sI, gR_sR, gI_sL, gI_sR, gL_sI, gL_sR, gR_sI, gR_sL, gz]
          exact L531f h5 z (sqc_r _) ((J1 (by rw [u]; exact z)).trans u)
      · by_cases c12 : h = 12
        · have un : hlpF E S h = fst (fst (fst (wntK (rgV S 1) 2) (wntM E (rgV S 2) 2 2)) (wntK (rgV S 3) 1)) (if 1 < sF S then 8 else if sH S = [] then 0 else 10) := by
            unfold hlpF
            rw [if_neg (by omega), if_neg a2, if_neg c5, if_neg c6, if_pos c12]
          have t28 := T528 h1 hF
          generalize wntK (rgV S 1) 2 = f1 at t28 un
          have t29 := T529 (σ := flt σ f1) (JSt_flt h1) h2 (fun m hm => by rw [fl_o (by omega), fl_o (by omega), fl_o (by omega), fl_o (by omega)]; exact h4 m hm) (r := 2) (x := 2) (y := 2) (by omega)
          rw [show ((2 : Nat) : Int) = 2 from rfl, flt_flt] at t29
          generalize wntM E (rgV S 2) 2 2 = f2 at t29 un
          have t27 := T527 (σ := flt σ (fst f1 f2)) (JSt_flt h1) hF (r := 3) (by omega)
          rw [show ((3 : Nat) : Int) = 3 from rfl, flt_flt] at t27
          generalize wntK (rgV S 3) 1 = f3 at t27 un
          have g123 : gI (flt σ (fst (fst f1 f2) f3)) 123 0 = (sF S : Int) := by rw [fl_o (by omega)]; exact h1.1
          have g125 : gI (flt σ (fst (fst f1 f2) f3)) 125 0 = ((sH S).length : Int) := by rw [fl_o (by omega)]; exact h1.2.2.2.1
          have s298 : MM 531 [mR (some 80), mI h] σ = RR (lkB tb531) (B531_298, [some (mR (some 80)), some (mI h), some (mI 0), none], [], flt σ (hlpF E S h)) := by
            rw [un, ← flt_flt]
            by_cases d1 : 1 < sF S
            · have d1' : ¬ (sF S : Int) ≤ 1 := by omega
              rw [if_pos d1]
              simp only [M531, e531_0, e531_198, e531_205, e531_210, e531_226, Option.getD_some, Option.bind_some, Option.toList_some, Option.toList_none, List.cons_append, List.nil_append, and_self, and_true, true_and, false_and, and_false, ite_self, not_true_eq_false, not_false_eq_true, reduceIte, Nat.reduceEqDiff, ab_I, ab_L, ab_R, ao_I, ao_L, ao_R, gL_sL, gI_sI, gR_sR, gI_sL, gI_sR, gL_sI, gL_sR, gR_sI, gR_sL, a1, a2, a3, a5, a7, c12, Int.reduceEq, t28, t29, t27, g_123, Int.reduceLT, Int.reduceLE, show (0 : Int).toNat = 0 from rfl, g123, d1', T473]
            · have d1' : (sF S : Int) ≤ 1 := by omega
              rw [if_neg d1]
              by_cases d2 : sH S = []
              · have d2' : ((sH S).length : Int) ≤ 0 := by rw [d2]; decide
                rw [if_pos d2, flt_0]
                simp only [M531, e531_0, e531_198, e531_205, e531_210, Option.getD_some, Option.bind_some, Option.toList_some, Option.toList_none, List.cons_append, List.nil_append, and_self, and_true, true_and, false_and, and_false, ite_self, not_true_eq_false, not_false_eq_true, reduceIte, Nat.reduceEqDiff, ab_I, ab_L, ab_R, ao_I, ao_L, ao_R, gL_sL, gI_sI, gR_sR, gI_sL, gI_sR, gL_sI, gL_sR, gR_sI, gR_sL, a1, a2, a3, a5, a7, c12, Int.reduceEq, t28, t29, t27, g_123, g_125, Int.reduceLT, Int.reduceLE, show (0 : Int).toNat = 0 from rfl, g123, g125, d1', d2']
              · have d2' : ¬ ((sH S).length : Int) ≤ 0 := by
                  have : 0 < (sH S).length := Nat.pos_of_ne_zero fun z => d2 (List.eq_nil_of_length_eq_zero z)
                  omega
                rw [if_neg d2]
                simp only [M531, e531_0, e531_198, e531_205, e531_210, e531_244, Option.getD_some, Option.bind_some, Option.toList_some, Option.toList_none, List.cons_append, List.nil_append, and_self, and_true, true_and, false_and, and_false, ite_self, not_true_eq_false, not_false_eq_true, reduceIte, Nat.reduceEqDiff, ab_I, ab_L, ab_R, ao_I, ao_L, ao_R, gL_sL, gI_sI, gR_sR, gI_sL, gI_sR, gL_sI, gL_sR, gR_sI, gR_sL, a1, a2, a3, a5, a7, c12, Int.reduceEq, t28, t29, t27, g_123, g_125, Int.reduceLT, Int.reduceLE, show (0 : Int).toNat = 0 from rfl, g123, g125, d1', d2', T473]
          rw [s298]
          by_cases y : hlpF E S h = 0
          · rw [y, flt_0]
            have e : hlpS S h = S := by
              unfold hlpS
              rw [if_neg (by omega), if_neg (by omega), if_neg (by omega)]
            have hj := Jn y a1 (by omega)
            rw [e] at hj
            exact L531n hF h1 (jq_r _) G hj
          · exact L531f h5 y (sqc_r _) (J1 y)
        · by_cases c26 : h = 26
          · have s251 : MM 531 [mR (some 80), mI h] σ = (MM 533 [mR (some 80)] σ).bind fun q => RR (lkB tb531) (B531_251, [some (mR (some 80)), some (mI h), some (mI 0), none], q.1.toList ++ [], q.2) := by
              simp only [M531, e531_0, Option.getD_some, Option.bind_some, Option.toList_some, Option.toList_none, List.cons_append, List.nil_append, and_self, and_true, true_and, false_and, and_false, ite_self, not_true_eq_false, not_false_eq_true, reduceIte, Nat.reduceEqDiff, ab_I, ab_L, ab_R, ao_I, ao_L, ao_R, gL_sL, gI_sI, gR_sR, gI_sL, gI_sR, gL_sI, gL_sR, gR_sI, gR_sL, a1, a2, a3, a5, a7, c6, c12, c26, Int.reduceEq]
            rw [s251]
            refine okc_b (T533 P) fun ρ q => ?_
            simp only [Option.toList_none, List.nil_append, e531_251]
            by_cases y : hlpF E S 26 = 0
            · rw [if_pos y] at q
              have hj := Jn (by rw [c26]; exact y) a1 (by omega)
              refine L531n (S1 := hlpS S h) (by rw [c26]; exact hF) (by rw [c26]; exact q.1) q.2.1 ⟨?_, ?_, ?_, ?_⟩ hj
              · rw [q.2.2 _ (by decide), h5]
              · exact q.2.2 _ (by decide)
              · exact q.2.2 _ (by decide)
              · rw [q.2.2 _ (by decide), h6]
            · rw [if_neg y] at q
              exact L531f h5 y q ((J1 (by rw [c26]; exact y)).trans (by rw [c26]))
          · by_cases c44 : h = 44
            · have un : hlpF E S h = fst (wntK (rgV S 1) 2) (wntK (rgV S 2) 1) := by
                unfold hlpF
                rw [if_neg (by omega), if_neg a2, if_neg c5, if_neg c6, if_neg c12, if_neg c26, if_pos c44]
              have t28 := T528 h1 hF
              have t27 := T527 (σ := flt σ (wntK (rgV S 1) 2)) (JSt_flt h1) hF (r := 2) (by omega)
              rw [show ((2 : Nat) : Int) = 2 from rfl, flt_flt, ← un] at t27
              have s263 : MM 531 [mR (some 80), mI h] σ = RR (lkB tb531) (B531_263, [some (mR (some 80)), some (mI h), some (mI 0), none], [], flt σ (hlpF E S h)) := by
                simp only [M531, e531_0, e531_258, Option.getD_some, Option.bind_some, Option.toList_some, Option.toList_none, List.cons_append, List.nil_append, and_self, and_true, true_and, false_and, and_false, ite_self, not_true_eq_false, not_false_eq_true, reduceIte, Nat.reduceEqDiff, ab_I, ab_L, ab_R, ao_I, ao_L, ao_R, gL_sL, gI_sI, gR_sR, gI_sL, gI_sR, gL_sI, gL_sR, gR_sI, gR_sL, a1, a2, a3, a5, a7, c6, c12, c26, c44, Int.reduceEq, t28]
                rw [c44] at t27
                simp only [Option.getD_some, Option.bind_some, Option.toList_some, Option.toList_none, List.cons_append, List.nil_append, and_self, and_true, true_and, false_and, and_false, ite_self, not_true_eq_false, not_false_eq_true, reduceIte, Nat.reduceEqDiff, ab_I, ab_L, ab_R, ao_I, ao_L, ao_R, gL_sL, gI_sI, gR_sR, gI_sL, gI_sR, gL_sI, gL_sR, gR_sI, gR_sL, t27]
              rw [s263]
              by_cases y : hlpF E S h = 0
              · rw [y, flt_0]
                have t34 := T534 (σ := σ) h1.1 hF.2
                have s298 : RR (lkB tb531) (B531_263, [some (mR (some 80)), some (mI h), some (mI 0), none], [], σ) = RR (lkB tb531) (B531_298, [some (mR (some 80)), some (mI h), some (mI 0), none], [], apS σ pktV (26 * sF S)) := by
                  simp only [e531_263, e531_274, Option.getD_some, Option.bind_some, Option.toList_some, Option.toList_none, List.cons_append, List.nil_append, and_self, and_true, true_and, false_and, and_false, ite_self, not_true_eq_false, not_false_eq_true, reduceIte, Nat.reduceEqDiff, ab_I, ab_L, ab_R, ao_I, ao_L, ao_R, gL_sL, gI_sI, gR_sR, gI_sL, gI_sR, gL_sI, gL_sR, gR_sI, gR_sL, h5, t34]
                rw [s298]
                have hj := Jn y a1 (by omega)
                have e : hlpS S h = allV S pktV := by
                  unfold hlpS
                  rw [if_neg c26, if_pos c44]
                rw [e] at hj
                have qa : nq (apS σ pktV (26 * sF S)) σ := ap_nq (by omega)
                refine L531n (S1 := allV S pktV) hF (ap_J0 hF.2 h1) (nq_jq qa) ⟨?_, ?_, ?_, ?_⟩ hj
                · rw [nq_80 qa, h5]
                · exact nq_80 qa
                · exact nq_80 qa
                · rw [nq_80 qa, h6]
              · have gz : ¬ gI (flt σ (hlpF E S h)) 80 90 = 0 := by rw [fl_g, h5, fst0]; exact y
                have s298 : RR (lkB tb531) (B531_263, [some (mR (some 80)), some (mI h), some (mI 0), none], [], flt σ (hlpF E S h)) = RR (lkB tb531) (B531_298, [some (mR (some 80)), some (mI h), some (mI 0), none], [], flt σ (hlpF E S h)) := by
                  rw [e531_263, if_pos gz]
                rw [s298]
                exact L531f h5 y (sqc_r _) (J1 y)
            · by_cases c131 : h = 131
              · obtain ⟨v, hv, tv⟩ := T535 P
                have s298 : MM 531 [mR (some 80), mI h] σ = RR (lkB tb531) (B531_298, [some (mR (some 80)), some (mI h), some (mI v), none], [], flt σ (hlpF E S h)) := by
                  simp only [M531, e531_0, e531_281, Option.getD_some, Option.bind_some, Option.toList_some, Option.toList_none, List.cons_append, List.nil_append, and_self, and_true, true_and, false_and, and_false, ite_self, not_true_eq_false, not_false_eq_true, reduceIte, Nat.reduceEqDiff, ab_I, ab_L, ab_R, ao_I, ao_L, ao_R, gL_sL, gI_sI, gR_sR, gI_sL, gI_sR, gL_sI, gL_sR, gR_sI, gR_sL, a1, a2, a3, a5, a7, c6, c12, c26, c44, c131, Int.reduceEq, tv]
                rw [s298]
                by_cases y : hlpF E S h = 0
                · rw [y, flt_0]
                  rw [c131] at y
                  obtain ⟨v1, v2, v3, v4⟩ := hv y
                  refine mk σ v 10 none (sqc_r _) (by omega) (by omega) (by rw [if_neg (by omega)]) (fun _ => v4) ?_
                  unfold hlpJ
                  rw [c131, if_neg (not_not_intro y), if_neg (by decide), if_pos rfl, if_pos rfl, v1, show (jV (vn (rgV S 2))).toInt + 1 - 1 = (jV (vn (rgV S 2))).toInt by omega]
                · exact L531f h5 y (sqc_r _) (J1 y)
              · by_cases c132 : h = 132 ∨ h = 133
                · have s289 : MM 531 [mR (some 80), mI h] σ = (MM 536 [mR (some 80)] σ).bind fun q => RR (lkB tb531) (B531_289, [some (mR (some 80)), some (mI h), some (mI 0), none], q.1.toList ++ [], q.2) := by
                    rcases c132 with c | c
                    all_goals simp only [M531, e531_0, Option.getD_some, Option.bind_some, Option.toList_some, Option.toList_none, List.cons_append, List.nil_append, and_self, and_true, true_and, false_and, and_false, ite_self, not_true_eq_false, not_false_eq_true, reduceIte, Nat.reduceEqDiff, ab_I, ab_L, ab_R, ao_I, ao_L, ao_R, gL_sL, gI_sI, gR_sR, gI_sL, gI_sR, gL_sI, gL_sR, gR_sI, gR_sL, c, Int.reduceEq]
                  rw [s289]
                  refine okc_b (T536 c132 P) fun ρ q => ?_
                  simp only [Option.toList_none, List.nil_append, e531_289]
                  by_cases y : hlpF E S h = 0
                  · rw [if_pos y] at q
                    have hj := Jn y a1 c131
                    refine L531n (S1 := hlpS S h) ?_ q.1 (nq_jq q.2) ⟨?_, ?_, ?_, ?_⟩ hj
                    · have e : hlpS S h = allV (relH S (vt (rgV S 1))) (recV (vt (rgV S 1))) := by
                        unfold hlpS
                        rw [if_neg c26, if_neg c44, if_pos c132]
                      rw [e]
                      exact hF
                    · rw [nq_80 q.2, h5]
                    · exact nq_80 q.2
                    · exact nq_80 q.2
                    · rw [nq_80 q.2, h6]
                  · rw [if_neg y] at q
                    exact L531f h5 y q (J1 y)
                · have d1 : ¬ h = 132 := fun q => c132 (Or.inl q)
                  have d2 : ¬ h = 133 := fun q => c132 (Or.inr q)
                  have u : hlpF E S h = 8 := by
                    unfold hlpF
                    rw [if_neg (by omega), if_neg a2, if_neg c5, if_neg c6, if_neg c12, if_neg c26, if_neg c44, if_neg c131, if_neg c132]
                  have s298 : MM 531 [mR (some 80), mI h] σ = RR (lkB tb531) (B531_298, [some (mR (some 80)), some (mI h), some (mI 0), none], [], flt σ 8) := by
                    simp only [M531, e531_0, Option.getD_some, Option.bind_some, Option.toList_some, Option.toList_none, List.cons_append, List.nil_append, and_self, and_true, true_and, false_and, and_false, ite_self, not_true_eq_false, not_false_eq_true, reduceIte, Nat.reduceEqDiff, ab_I, ab_L, ab_R, ao_I, ao_L, ao_R, gL_sL, gI_sI, gR_sR, gI_sL, gI_sR, gL_sI, gL_sR, gR_sI, gR_sL, a1, a2, a3, a5, a7, c6, c12, c26, c44, c131, d1, d2, T473]
                  rw [s298]
                  exact L531f h5 (by decide) (sqc_r _) ((J1 (by rw [u]; decide)).trans u)
end HP3
