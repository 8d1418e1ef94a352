/-! ===== the reference's judge: helpers, behind their arguments ===== -/
section HP2
variable {σ τ ρ : MS} {S : ST} {E : EV} {t : Int} {F : Nat}
theorem wnt_0 {x : VL} {p : Prop} {d : Decidable p} (h : wntA x (decide p) = 0) : p := by
  unfold wntA at h
  by_cases q1 : vk x = 0
  · rw [if_pos q1] at h
    exact absurd h (by decide)
  · rw [if_neg q1] at h
    by_cases q2 : isMb x
    · rw [if_pos q2] at h
      exact absurd h (by decide)
    · rw [if_neg q2] at h
      by_cases q3 : p
      · exact q3
      · rw [decide_eq_false q3, if_neg (by decide)] at h
        exact absurd h (by decide)
/-- a stretch of parts has bytes -/
theorem L533 {x1 x2 x3 n b f k : Nat} {Q : Nat → ST} (hF : sF (Q 0) ≤ 4) (hf : f < sF (Q 0)) (hb : gI σ 80 102 = (b : Int)) (hff : gI σ 80 103 = (f : Int)) (hn : b + n ≤ 128) (hQ : ∀ m, m < n → (sF (Q m), upV (sV (Q m)) (26 * f + 10 + (b + m) / 8) (unpV (sV (Q m) (26 * f + 10 + (b + m) / 8))), sB (Q m), sH (Q m)) = Q (m + 1)) (hJ : J0 σ (Q 0)) : ∃ ρ, RR (lkB tb533) (B533_156, [some (mR (some 80)), some (mI (x1 : Int)), some (mI (x2 : Int)), some (mI (n : Int)), some (mI (k : Int)), some (mI (b : Int))], [], σ) = RR (lkB tb533) (B533_156, [some (mR (some 80)), some (mI (x1 : Int)), some (mI (x2 : Int)), some (mI (n : Int)), some (mI (k : Int)), some (mI ((b + n : Nat) : Int))], [], ρ) ∧ J0 ρ (Q n) ∧ nq ρ σ := by
  have hs : ∀ m, m ≤ n → sF (Q m) = sF (Q 0) := by
    intro m
    induction m with
    | zero => intro _; rfl
    | succ m ih =>
      intro hm
      rw [← hQ m (by omega)]
      exact ih (by omega)
  have key : ∀ m, m ≤ n → ∃ ρ, RR (lkB tb533) (B533_156, [some (mR (some 80)), some (mI (x1 : Int)), some (mI (x2 : Int)), some (mI (n : Int)), some (mI (k : Int)), some (mI (b : Int))], [], σ) = RR (lkB tb533) (B533_156, [some (mR (some 80)), some (mI (x1 : Int)), some (mI (x2 : Int)), some (mI (n : Int)), some (mI (k : Int)), some (mI ((b + m : Nat) : Int))], [], ρ) ∧ J0 ρ (Q m) ∧ nq ρ σ := by
    intro m
    induction m with
    | zero => intro _; exact ⟨σ, rfl, hJ, nq_r _⟩
    | succ m ih =>
      intro hm
      obtain ⟨ρ, e, j, q⟩ := ih (by omega)
      have t2 : gI ρ 80 102 = (b : Int) := (nq_80 q).trans hb
      have t3 : gI ρ 80 103 = (f : Int) := (nq_80 q).trans hff
      have sm := hs m (by omega)
      have lt : 26 * f + 10 + (b + m) / 8 < 26 * sF (Q m) := prt_lt (by omega) (by omega)
      have hv := J0_v j lt
      have hq := hQ m (by omega)
      obtain ⟨p, hp⟩ : ∃ p, p = 26 * f + 10 + (b + m) / 8 := ⟨_, rfl⟩
      rw [← hp] at lt hv hq
      have pb : inB (p : Int) := ⟨by omega, by omega⟩
      have t4 : MM 504 [mR (some 80), mI ((b + m : Nat) : Int)] ρ = some (some (mI (p : Int)), ρ) := by
        have := T504 (σ := ρ) (b := b + m) (by omega) (by omega)
        rwa [show (gI ρ 80 103).toNat = f by omega, ← hp] at this
      have t6 := T506 (σ := ρ) pb
      rw [Int.toNat_natCast, hv] at t6
      have nl : ¬ (b : Int) + (n : Int) ≤ ((b + m : Nat) : Int) := by omega
      have wn : w32 ((b : Int) + (n : Int)) = (b : Int) + (n : Int) := w32_i (by omega) (by omega)
      have e3 : w32 (((b + m : Nat) : Int) + 1) = ((b + (m + 1) : Nat) : Int) := w32_s (by clear wn; omega)
      refine ⟨wrV ρ p (unpV (sV (Q m) p)), ?_, ?_, ?_⟩
      · rw [e, e533_156, t2, wn, if_neg nl, t4]
        simp only [Option.bind_some, Option.toList_some, Option.toList_none, List.cons_append, List.nil_append, e533_174, t6, e533_177, e3]
      · have := J0_wV (k := p) (v := unpV (sV (Q m) p)) (by omega) j
        rwa [hq] at this
      · refine nq_t (b := ρ) ⟨fun k s z => ?_, fun k s z => ?_, rfl⟩ q
        · by_cases y : s = p
          · exact gI_wrV_o (by omega)
          · exact gI_wrV_s y
        · by_cases y : s = p
          · exact gL_wrV_o (by omega)
          · exact gL_wrV_s y
  exact key n (Nat.le_refl n)
set_option maxHeartbeats 1000000 in
theorem T533 (H : pH σ S E t) : okc (MM 533 [mR (some 80)] σ) none (fun τ => if hlpF E S 26 = 0 then J0 τ (hlpS S 26) ∧ jq τ σ ∧ ∀ s, ¬ (s = 102 ∨ s = 103) → gI τ 80 s = gI σ 80 s else sqc τ (flt σ (hlpF E S 26))) := by
  have H' := H
  obtain ⟨⟨h1, h2, h3, h4⟩, h5, h6⟩ := H'
  have hF := h2.1
  have t28 := T528 h1 hF
  generalize e1 : wntK (rgV S 1) 2 = a1 at t28
  have t27 := T527 (JSt_flt (x := a1) h1) hF (r := 2) (by omega)
  rw [show ((2 : Nat) : Int) = 2 from rfl, flt_flt] at t27
  generalize e2 : wntK (rgV S 2) 1 = a2 at t27
  have j2 : J0 (flt σ (fst a1 a2)) S := JSt_flt h1
  have n4 := at_n j2 hF (r := 4) (by omega)
  rw [show ((4 : Nat) : Int) = 4 from rfl] at n4
  have v4 := at_nv h1 hF (r := 4) (by omega)
  have b4 := at_b hF (r := 4) (by omega)
  have t26 := T526 (σ := flt σ (fst a1 a2)) (p := vk (rgV S 4) = 1 ∧ ¬ jA (vn (rgV S 4)) = 0#64 ∧ ¬ 128#64 < jB (vn (rgV S 4))) (d := inferInstance) b4
  rw [Int.toNat_natCast, aV_flt, v4, flt_flt] at t26
  generalize e3 : wntA (rgV S 4) (decide (vk (rgV S 4) = 1 ∧ ¬ jA (vn (rgV S 4)) = 0#64 ∧ ¬ 128#64 < jB (vn (rgV S 4)))) = a3 at t26
  have j3 : J0 (flt σ (fst (fst a1 a2) a3)) S := JSt_flt h1
  have n3 := at_n j3 hF (r := 3) (by omega)
  rw [show ((3 : Nat) : Int) = 3 from rfl] at n3
  have v3 := at_nv h1 hF (r := 3) (by omega)
  have b3 := at_b hF (r := 3) (by omega)
  have t25 := T526 (σ := flt σ (fst (fst a1 a2) a3)) (p := vk (rgV S 3) = 3) (d := inferInstance) b3
  rw [Int.toNat_natCast, aV_flt, v3, flt_flt] at t25
  have e4' : wntA (rgV S 3) (decide (vk (rgV S 3) = 3)) = wntK (rgV S 3) 3 := rfl
  rw [e4'] at t25
  generalize e4 : wntK (rgV S 3) 3 = a4 at t25
  have un : hlpF E S 26 = fst (fst (fst (fst a1 a2) a3) a4) (if room E (rgV S 3) 0 (jB (vn (rgV S 4))).toInt then 0 else 5) := by
    rw [← e1, ← e2, ← e3, ← e4]
    unfold hlpF
    rw [if_neg (by decide), if_neg (by decide), if_neg (by decide), if_neg (by decide), if_neg (by decide), if_pos rfl]
  have k118 : ∀ c, gI (flt σ c) 118 (26 * (sF S - 1) + 4) = vk (rgV S 4) := fun c => by rw [q118, aV_flt, v4]
  have k114 : ∀ c, gL (flt σ c) 114 (26 * (sF S - 1) + 4) = jA (vn (rgV S 4)) := fun c => by rw [q114, aV_flt, v4]
  have k115 : ∀ c, gL (flt σ c) 115 (26 * (sF S - 1) + 4) = jB (vn (rgV S 4)) := fun c => by rw [q115, aV_flt, v4]
  have k1183 : ∀ c, gI (flt σ c) 118 (26 * (sF S - 1) + 3) = vk (rgV S 3) := fun c => by rw [q118, aV_flt, v3]
  have i128 : iL 128 = 128#64 := by decide
  have s61 : MM 533 [mR (some 80)] σ = RR (lkB tb533) (B533_61, [some (mR (some 80)), some (mI ((26 * (sF S - 1) + 4 : Nat) : Int)), none, none, none, none], [], flt σ (fst (fst a1 a2) a3)) := by
    by_cases c1 : vk (rgV S 4) = 1
    · by_cases c2 : jA (vn (rgV S 4)) = 0#64
      · rw [b2_no (p := vk (rgV S 4) = 1 ∧ ¬ jA (vn (rgV S 4)) = 0#64 ∧ ¬ 128#64 < jB (vn (rgV S 4))) (fun q => q.2.1 c2)] at t26
        simp only [M533, e533_0, e533_4, e533_9, e533_14, e533_57, e533_58, Option.getD_some, Option.bind_some, Option.toList_some, Option.toList_none, List.cons_append, List.nil_append, and_self, and_true, true_and, false_and, and_false, ite_self, not_true_eq_false, not_false_eq_true, reduceIte, Nat.reduceEqDiff, ab_I, ab_L, ab_R, ao_I, ao_L, ao_R, gL_sL, gI_sI, gR_sR, gI_sL, gI_sR, gL_sI, gL_sR, gR_sI, gR_sL, t28, t27, n4, g_118, g_114, b4.1, b4.2, Int.toNat_natCast, k118, k114, c1, c2, t26, flt_flt]
      · by_cases c3 : 128#64 < jB (vn (rgV S 4))
        · rw [b2_no (p := vk (rgV S 4) = 1 ∧ ¬ jA (vn (rgV S 4)) = 0#64 ∧ ¬ 128#64 < jB (vn (rgV S 4))) (fun q => q.2.2 c3)] at t26
          simp only [M533, e533_0, e533_4, e533_9, e533_14, e533_50, e533_57, e533_58, Option.getD_some, Option.bind_some, Option.toList_some, Option.toList_none, List.cons_append, List.nil_append, and_self, and_true, true_and, false_and, and_false, ite_self, not_true_eq_false, not_false_eq_true, reduceIte, Nat.reduceEqDiff, ab_I, ab_L, ab_R, ao_I, ao_L, ao_R, gL_sL, gI_sI, gR_sR, gI_sL, gI_sR, gL_sI, gL_sR, gR_sI, gR_sL, t28, t27, n4, g_118, g_114, g_115, b4.1, b4.2, Int.toNat_natCast, k118, k114, k115, c1, c2, i128, T389, b2_n', c3, t26, flt_flt]
        · rw [b2_yes (p := vk (rgV S 4) = 1 ∧ ¬ jA (vn (rgV S 4)) = 0#64 ∧ ¬ 128#64 < jB (vn (rgV S 4))) ⟨c1, c2, c3⟩] at t26
          simp only [M533, e533_0, e533_4, e533_9, e533_14, e533_50, e533_57, e533_58, Option.getD_some, Option.bind_some, Option.toList_some, Option.toList_none, List.cons_append, List.nil_append, and_self, and_true, true_and, false_and, and_false, ite_self, not_true_eq_false, not_false_eq_true, reduceIte, Nat.reduceEqDiff, ab_I, ab_L, ab_R, ao_I, ao_L, ao_R, gL_sL, gI_sI, gR_sR, gI_sL, gI_sR, gL_sI, gL_sR, gR_sI, gR_sL, t28, t27, n4, g_118, g_114, g_115, b4.1, b4.2, Int.toNat_natCast, k118, k114, k115, c1, c2, i128, T389, b2_n', c3, t26, flt_flt]
    · rw [b2_no (p := vk (rgV S 4) = 1 ∧ ¬ jA (vn (rgV S 4)) = 0#64 ∧ ¬ 128#64 < jB (vn (rgV S 4))) (fun q => c1 q.1)] at t26
      simp only [M533, e533_0, e533_4, e533_9, e533_14, e533_57, e533_58, Option.getD_some, Option.bind_some, Option.toList_some, Option.toList_none, List.cons_append, List.nil_append, and_self, and_true, true_and, false_and, and_false, ite_self, not_true_eq_false, not_false_eq_true, reduceIte, Nat.reduceEqDiff, ab_I, ab_L, ab_R, ao_I, ao_L, ao_R, gL_sL, gI_sI, gR_sR, gI_sL, gI_sR, gL_sI, gL_sR, gR_sI, gR_sL, t28, t27, n4, g_118, b4.1, b4.2, Int.toNat_natCast, k118, c1, t26, flt_flt]
  have s87 : MM 533 [mR (some 80)] σ = RR (lkB tb533) (B533_87, [some (mR (some 80)), some (mI ((26 * (sF S - 1) + 4 : Nat) : Int)), some (mI ((26 * (sF S - 1) + 3 : Nat) : Int)), none, none, none], [], flt σ (fst (fst (fst a1 a2) a3) a4)) := by
    rw [s61]
    by_cases c : vk (rgV S 3) = 3
    · rw [b2_yes c] at t25
      simp only [e533_61, e533_66, e533_84, Option.getD_some, Option.bind_some, Option.toList_some, Option.toList_none, List.cons_append, List.nil_append, and_self, and_true, true_and, false_and, and_false, ite_self, not_true_eq_false, not_false_eq_true, reduceIte, Nat.reduceEqDiff, ab_I, ab_L, ab_R, ao_I, ao_L, ao_R, gL_sL, gI_sI, gR_sR, gI_sL, gI_sR, gL_sI, gL_sR, gR_sI, gR_sL, n3, g_118, b3.1, b3.2, Int.toNat_natCast, k1183, eq_true c, t25, flt_flt]
    · rw [b2_no c] at t25
      simp only [e533_61, e533_66, e533_84, Option.getD_some, Option.bind_some, Option.toList_some, Option.toList_none, List.cons_append, List.nil_append, and_self, and_true, true_and, false_and, and_false, ite_self, not_true_eq_false, not_false_eq_true, reduceIte, Nat.reduceEqDiff, ab_I, ab_L, ab_R, ao_I, ao_L, ao_R, gL_sL, gI_sI, gR_sR, gI_sL, gI_sR, gL_sI, gL_sR, gR_sI, gR_sL, n3, g_118, b3.1, b3.2, Int.toNat_natCast, k1183, c, t25, flt_flt]
  rw [s87]
  generalize ef : fst (fst (fst a1 a2) a3) a4 = f at *
  by_cases z : f = 0
  · obtain ⟨z123, z4⟩ := fst_0 (ef.trans z)
    obtain ⟨z12, z3⟩ := fst_0 z123
    have p4 := wnt_0 (e3.trans z3)
    have p3 : vk (rgV S 3) = 3 := wnt_0 (x := rgV S 3) (e4'.trans (e4.trans z4))
    rw [z, fst0] at un
    rw [z, flt_0]
    obtain ⟨c1, c2, c3⟩ := p4
    have jb : (jB (vn (rgV S 4))).toNat ≤ 128 := by
      rw [BitVec.lt_def] at c3
      have : (128#64).toNat = 128 := rfl
      omega
    have tB : (jB (vn (rgV S 4))).toInt = ((jB (vn (rgV S 4))).toNat : Int) := by rw [toInt_c, if_pos (by omega)]
    have lB : lI (jB (vn (rgV S 4))) = (((jB (vn (rgV S 4))).toNat : Nat) : Int) := by
      unfold lI
      rw [tB]
      exact w32_i (by omega) (by omega)
    have hf := okV_f h2 (show 3 ≤ 10 by omega) p3
    have okX := okV_r h2 (show 3 ≤ 10 by omega)
    have ho := okX.2.1 (Or.inl p3)
    have canX := can_r h3 hF.1 (show 3 ≤ 10 by omega)
    have t3 := T503 (σ := σ) (x := ((26 * (sF S - 1) + 3 : Nat) : Int)) (y := 0) (n := (jB (vn (rgV S 4))).toNat) (g := 3) (t := t) (E := E) b3 (by rw [Int.toNat_natCast, v3]; exact Or.inl p3) (by rw [Int.toNat_natCast, v3]; exact okX) h4 (by rw [Int.toNat_natCast, v3]; exact canX.2.2.2.2.2) (by omega) (by omega)
    simp only [Int.toNat_natCast, v3, p3, if_true] at t3
    have k114' : gL σ 114 (26 * (sF S - 1) + 4) = jA (vn (rgV S 4)) := by rw [q114, v4]
    have k115' : gL σ 115 (26 * (sF S - 1) + 4) = jB (vn (rgV S 4)) := by rw [q115, v4]
    obtain ⟨least, hl⟩ : ∃ l, l = if jB (vn (rgV S 4)) < jA (vn (rgV S 4)) then (jB (vn (rgV S 4))).toNat else (jA (vn (rgV S 4))).toNat := ⟨_, rfl⟩
    have ll : least ≤ (jB (vn (rgV S 4))).toNat := by
      rw [hl]
      split
      · exact Nat.le_refl _
      · rename_i q
        rw [BitVec.lt_def] at q
        omega
    generalize 26 * (sF S - 1) + 4 = x4 at *
    generalize 26 * (sF S - 1) + 3 = x3 at *
    have s141 : RR (lkB tb533) (B533_87, [some (mR (some 80)), some (mI (x4 : Int)), some (mI (x3 : Int)), none, none, none], [], σ) = RR (lkB tb533) (B533_141, [some (mR (some 80)), some (mI (x4 : Int)), some (mI (x3 : Int)), some (mI (((jB (vn (rgV S 4))).toNat : Nat) : Int)), some (mI (least : Int)), none], [mI (b2 (room E (rgV S 3) 0 ((jB (vn (rgV S 4))).toNat : Int)))], sI (sI σ 80 103 (vw (rgV S 3))) 80 102 (vo (rgV S 3) + 0 + 128)) := by
      by_cases q : jB (vn (rgV S 4)) < jA (vn (rgV S 4))
      · rw [if_pos q] at hl
        simp only [e533_87, e533_118, e533_132, Option.getD_some, Option.bind_some, Option.toList_some, Option.toList_none, List.cons_append, List.nil_append, and_self, and_true, true_and, false_and, and_false, ite_self, not_true_eq_false, not_false_eq_true, reduceIte, Nat.reduceEqDiff, ab_I, ab_L, ab_R, ao_I, ao_L, ao_R, gL_sL, gI_sI, gR_sR, gI_sL, gI_sR, gL_sI, gL_sR, gR_sI, gR_sL, h5, g_115, g_114, b4.1, b4.2, Int.toNat_natCast, k114', k115', T389, b2_0', q, lB, t3, hl]
      · rw [if_neg q] at hl
        have lA : lI (jA (vn (rgV S 4))) = (least : Int) := by
          rw [hl]
          unfold lI
          rw [toInt_c, if_pos (by omega)]
          exact w32_i (by omega) (by omega)
        simp only [e533_87, e533_118, e533_132, Option.getD_some, Option.bind_some, Option.toList_some, Option.toList_none, List.cons_append, List.nil_append, and_self, and_true, true_and, false_and, and_false, ite_self, not_true_eq_false, not_false_eq_true, reduceIte, Nat.reduceEqDiff, ab_I, ab_L, ab_R, ao_I, ao_L, ao_R, gL_sL, gI_sI, gR_sR, gI_sL, gI_sR, gL_sI, gL_sR, gR_sI, gR_sL, h5, g_115, g_114, b4.1, b4.2, Int.toNat_natCast, k114', k115', T389, b2_0', q, lB, lA, t3]
    rw [s141]
    rw [tB] at un
    by_cases c5 : room E (rgV S 3) 0 ((jB (vn (rgV S 4))).toNat : Int)
    · rw [if_pos c5] at un
      rw [b2_yes c5, un]
      have hr : -128 ≤ vo (rgV S 3) + 0 ∧ vo (rgV S 3) + 0 ≤ -((jB (vn (rgV S 4))).toNat : Int) := by
        have := c5
        unfold room at this
        rwa [if_pos p3] at this
      generalize hρ : sI (sI σ 80 103 (vw (rgV S 3))) 80 102 (vo (rgV S 3) + 0 + 128) = ρ
      have r1 : sqc ρ σ := by rw [← hρ]; exact sqc_pb
      obtain ⟨b, hb⟩ : ∃ b : Nat, b = (vo (rgV S 3) + 128).toNat := ⟨_, rfl⟩
      obtain ⟨ff, hff⟩ : ∃ f : Nat, f = (vw (rgV S 3)).toNat := ⟨_, rfl⟩
      have r2 : gI ρ 80 102 = (b : Int) := by rw [← hρ, gI_sI, if_pos ⟨rfl, rfl⟩]; omega
      have r3 : gI ρ 80 103 = (ff : Int) := by rw [← hρ, gI_sI, if_neg (by omega), gI_sI, if_pos ⟨rfl, rfl⟩]; omega
      have r5 : J0 ρ S := JSt_sq r1 (by omega) hF.2 h1
      have bn : b + (jB (vn (rgV S 4))).toNat ≤ 128 := by omega
      have ffl : ff < sF S := by omega
      have eS : hlpS S 26 = putB S ff b (jB (vn (rgV S 4))).toNat least := by
        rw [hl, hff, hb]
        unfold hlpS
        rw [if_pos rfl]
      generalize (jB (vn (rgV S 4))).toNat = n at *
      obtain ⟨ρ1, g1, g2, g3⟩ := L533 (σ := ρ) (x1 := x4) (x2 := x3) (x3 := 0) (n := n) (b := b) (f := ff) (k := least) (Q := fun m => putB S ff b m 0) hF.2 ffl r2 r3 bn (fun m hm => putB_u (Nat.zero_le m) (unp_c (h3 _ (prt_lt ffl (by omega)))).1) (by show J0 ρ (putB S ff b 0 0); rw [putB_0]; exact r5)
      have t7 := L507 (σ := ρ1) (n := least) (b := b) (f := ff) (Q := fun m => putB S ff b n m) hF.2 ffl ((nq_80 g3).trans r2) ((nq_80 g3).trans r3) (by omega) (fun m hm => one_c (by omega)) (fun m _ => can_put h3) g2
      have s156 : RR (lkB tb533) (B533_141, [some (mR (some 80)), some (mI (x4 : Int)), some (mI (x3 : Int)), some (mI (n : Int)), some (mI (least : Int)), none], [mI 1], ρ) = RR (lkB tb533) (B533_156, [some (mR (some 80)), some (mI (x4 : Int)), some (mI (x3 : Int)), some (mI (n : Int)), some (mI (least : Int)), some (mI (b : Int))], [], ρ) := by
        simp only [e533_141, Option.getD_some, Option.bind_some, Option.toList_some, Option.toList_none, List.cons_append, List.nil_append, and_self, and_true, true_and, false_and, and_false, ite_self, not_true_eq_false, not_false_eq_true, reduceIte, Nat.reduceEqDiff, ab_I, ab_L, ab_R, ao_I, ao_L, ao_R, gL_sL, gI_sI, gR_sR, gI_sL, gI_sR, gL_sI, gL_sR, gR_sI, gR_sL, oneI, r2]
      rw [s156, g1, e533_156, (nq_80 g3).trans r2, w32_i (by omega) (by omega), if_pos (by omega)]
      refine okc_b t7 fun τ q => ?_
      simp only [Option.toList_none, List.nil_append, e533_189]
      refine okc_s ?_
      rw [if_pos trivial, eS]
      obtain ⟨q1, q2, q3, q4⟩ := q
      have n2 : nq τ ρ1 := ⟨fun k s y => q2 k s (by omega), fun k s y => q3 k s (by omega), q4⟩
      exact ⟨q1, jq_t (nq_jq (nq_t n2 g3)) (jq_sq r1), fun s hs => by rw [nq_80 n2, nq_80 g3]; exact sqc_I r1 (by omega) (by omega)⟩
    · rw [if_neg c5] at un
      rw [b2_no c5, un]
      simp only [e533_141, e533_149, Option.getD_some, Option.bind_some, Option.toList_some, Option.toList_none, List.cons_append, List.nil_append, and_self, and_true, true_and, false_and, and_false, ite_self, not_true_eq_false, not_false_eq_true, reduceIte, Nat.reduceEqDiff, ab_I, ab_L, ab_R, ao_I, ao_L, ao_R, gL_sL, gI_sI, gR_sR, gI_sL, gI_sR, gL_sI, gL_sR, gR_sI, gR_sL, T473]
      refine okc_s ?_
      rw [if_neg (by decide)]
      exact sqc_flt sqc_pb
  · have gz : ¬ gI (flt σ f) 80 90 = 0 := by rw [fl_g, h5, fst0]; exact z
    have u : hlpF E S 26 = f := un.trans (if_neg z)
    simp only [e533_87, Option.getD_some, Option.bind_some, Option.toList_some, Option.toList_none, List.cons_append, List.nil_append, and_self, and_true, true_and, false_and, and_false, ite_self, not_true_eq_false, not_false_eq_true, reduceIte, Nat.reduceEqDiff, ab_I, ab_L, ab_R, ao_I, ao_L, ao_R, gL_sL, gI_sI, gR_sR, gI_sL, gI_sR, gL_sI, gL_sR, gR_sI, gR_sL, gz]
    refine okc_s ?_
    rw [u, if_neg z]
    exact sqc_r _
theorem T536 {h : Int} (hh : h = 132 ∨ h = 133) (H : pH σ S E t) : okc (MM 536 [mR (some 80)] σ) none (fun τ => if hlpF E S h = 0 then J0 τ (hlpS S h) ∧ nq τ σ else sqc τ (flt σ (hlpF E S h))) := by
  have H' := H
  obtain ⟨⟨h1, h2, h3, h4⟩, h5, h6⟩ := H'
  have hF := h2.1
  have hH := h2.2.2.2.2.2.1
  have n1 := at_n h1 hF (r := 1) (by omega)
  rw [show ((1 : Nat) : Int) = 1 from rfl] at n1
  have v1 := at_nv h1 hF (r := 1) (by omega)
  have b1 := at_b hF (r := 1) (by omega)
  have t26 := T526 (σ := σ) (p := vk (rgV S 1) = 9 ∧ vo (rgV S 1) = 0 ∧ isC (vn (rgV S 1)) ∧ jV (vn (rgV S 1)) = 0#64) (d := inferInstance) b1
  rw [Int.toNat_natCast, v1] at t26
  generalize e1 : wntA (rgV S 1) (decide (vk (rgV S 1) = 9 ∧ vo (rgV S 1) = 0 ∧ isC (vn (rgV S 1)) ∧ jV (vn (rgV S 1)) = 0#64)) = a1 at t26
  have t27 := T527 (JSt_flt (x := a1) h1) hF (r := 2) (by omega)
  rw [show ((2 : Nat) : Int) = 2 from rfl, flt_flt] at t27
  generalize e2 : wntK (rgV S 2) 1 = a2 at t27
  have un : hlpF E S h = fst a1 a2 := by
    rw [← e1, ← e2]
    unfold hlpF
    rcases hh with rfl | rfl
    · rw [if_neg (by decide), if_neg (by decide), if_neg (by decide), if_neg (by decide), if_neg (by decide), if_neg (by decide), if_neg (by decide), if_neg (by decide), if_pos (Or.inl rfl)]
    · rw [if_neg (by decide), if_neg (by decide), if_neg (by decide), if_neg (by decide), if_neg (by decide), if_neg (by decide), if_neg (by decide), if_neg (by decide), if_pos (Or.inr rfl)]
  have uS : hlpS S h = allV (relH S (vt (rgV S 1))) (recV (vt (rgV S 1))) := by
    unfold hlpS
    rcases hh with rfl | rfl
    · rw [if_neg (by decide), if_neg (by decide), if_pos (Or.inl rfl)]
    · rw [if_neg (by decide), if_neg (by decide), if_pos (Or.inr rfl)]
  have k118 : gI σ 118 (26 * (sF S - 1) + 1) = vk (rgV S 1) := by rw [q118, v1]
  have k119 : gI σ 119 (26 * (sF S - 1) + 1) = vo (rgV S 1) := by rw [q119, v1]
  have k112 : gL σ 112 (26 * (sF S - 1) + 1) = jV (vn (rgV S 1)) := by rw [q112, v1]
  have t39 := T439 (σ := σ) b1.1 b1.2
  rw [Int.toNat_natCast, show gL σ 113 (26 * (sF S - 1) + 1) = jM (vn (rgV S 1)) by rw [q113, v1]] at t39
  have s55 : MM 536 [mR (some 80)] σ = RR (lkB tb536) (B536_55, [some (mR (some 80)), some (mI ((26 * (sF S - 1) + 1 : Nat) : Int)), none, none], [], flt σ a1) := by
    by_cases c1 : vk (rgV S 1) = 9
    · by_cases c2 : vo (rgV S 1) = 0
      · by_cases c3 : jM (vn (rgV S 1)) = 0#64
        · by_cases c4 : jV (vn (rgV S 1)) = 0#64
          · rw [b2_yes (p := vk (rgV S 1) = 9 ∧ vo (rgV S 1) = 0 ∧ isC (vn (rgV S 1)) ∧ jV (vn (rgV S 1)) = 0#64) ⟨c1, c2, c3, c4⟩] at t26
            simp only [M536, e536_0, e536_5, e536_33, e536_51, e536_52, Option.getD_some, Option.bind_some, Option.toList_some, Option.toList_none, List.cons_append, List.nil_append, and_self, and_true, true_and, false_and, and_false, ite_self, not_true_eq_false, not_false_eq_true, reduceIte, Nat.reduceEqDiff, ab_I, ab_L, ab_R, ao_I, ao_L, ao_R, gL_sL, gI_sI, gR_sR, gI_sL, gI_sR, gL_sI, gL_sR, gR_sI, gR_sL, n1, g_118, g_119, g_112, b1.1, b1.2, Int.toNat_natCast, k118, k119, k112, c1, c2, t39, b2_0', eq_true c3, eq_true c4, t26]
          · rw [b2_no (p := vk (rgV S 1) = 9 ∧ vo (rgV S 1) = 0 ∧ isC (vn (rgV S 1)) ∧ jV (vn (rgV S 1)) = 0#64) (fun q => c4 q.2.2.2)] at t26
            simp only [M536, e536_0, e536_5, e536_33, e536_51, e536_52, Option.getD_some, Option.bind_some, Option.toList_some, Option.toList_none, List.cons_append, List.nil_append, and_self, and_true, true_and, false_and, and_false, ite_self, not_true_eq_false, not_false_eq_true, reduceIte, Nat.reduceEqDiff, ab_I, ab_L, ab_R, ao_I, ao_L, ao_R, gL_sL, gI_sI, gR_sR, gI_sL, gI_sR, gL_sI, gL_sR, gR_sI, gR_sL, n1, g_118, g_119, g_112, b1.1, b1.2, Int.toNat_natCast, k118, k119, k112, c1, c2, t39, b2_0', eq_true c3, c4, t26]
        · rw [b2_no (p := vk (rgV S 1) = 9 ∧ vo (rgV S 1) = 0 ∧ isC (vn (rgV S 1)) ∧ jV (vn (rgV S 1)) = 0#64) (fun q => c3 q.2.2.1)] at t26
          simp only [M536, e536_0, e536_5, e536_33, e536_51, e536_52, Option.getD_some, Option.bind_some, Option.toList_some, Option.toList_none, List.cons_append, List.nil_append, and_self, and_true, true_and, false_and, and_false, ite_self, not_true_eq_false, not_false_eq_true, reduceIte, Nat.reduceEqDiff, ab_I, ab_L, ab_R, ao_I, ao_L, ao_R, gL_sL, gI_sI, gR_sR, gI_sL, gI_sR, gL_sI, gL_sR, gR_sI, gR_sL, n1, g_118, g_119, g_112, b1.1, b1.2, Int.toNat_natCast, k118, k119, k112, c1, c2, t39, b2_0', c3, t26]
      · rw [b2_no (p := vk (rgV S 1) = 9 ∧ vo (rgV S 1) = 0 ∧ isC (vn (rgV S 1)) ∧ jV (vn (rgV S 1)) = 0#64) (fun q => c2 q.2.1)] at t26
        simp only [M536, e536_0, e536_5, e536_51, e536_52, Option.getD_some, Option.bind_some, Option.toList_some, Option.toList_none, List.cons_append, List.nil_append, and_self, and_true, true_and, false_and, and_false, ite_self, not_true_eq_false, not_false_eq_true, reduceIte, Nat.reduceEqDiff, ab_I, ab_L, ab_R, ao_I, ao_L, ao_R, gL_sL, gI_sI, gR_sR, gI_sL, gI_sR, gL_sI, gL_sR, gR_sI, gR_sL, n1, g_118, g_119, b1.1, b1.2, Int.toNat_natCast, k118, k119, c1, c2, t26]
    · rw [b2_no (p := vk (rgV S 1) = 9 ∧ vo (rgV S 1) = 0 ∧ isC (vn (rgV S 1)) ∧ jV (vn (rgV S 1)) = 0#64) (fun q => c1 q.1)] at t26
      simp only [M536, e536_0, e536_5, e536_51, e536_52, Option.getD_some, Option.bind_some, Option.toList_some, Option.toList_none, List.cons_append, List.nil_append, and_self, and_true, true_and, false_and, and_false, ite_self, not_true_eq_false, not_false_eq_true, reduceIte, Nat.reduceEqDiff, ab_I, ab_L, ab_R, ao_I, ao_L, ao_R, gL_sL, gI_sI, gR_sR, gI_sL, gI_sR, gL_sI, gL_sR, gR_sI, gR_sL, n1, g_118, b1.1, b1.2, Int.toNat_natCast, k118, c1, t26]
  have s60 : MM 536 [mR (some 80)] σ = RR (lkB tb536) (B536_60, [some (mR (some 80)), some (mI ((26 * (sF S - 1) + 1 : Nat) : Int)), none, none], [], flt σ (fst a1 a2)) := by
    rw [s55]
    simp only [e536_55, Option.getD_some, Option.bind_some, Option.toList_some, Option.toList_none, List.cons_append, List.nil_append, and_self, and_true, true_and, false_and, and_false, ite_self, not_true_eq_false, not_false_eq_true, reduceIte, Nat.reduceEqDiff, ab_I, ab_L, ab_R, ao_I, ao_L, ao_R, gL_sL, gI_sI, gR_sR, gI_sL, gI_sR, gL_sI, gL_sR, gR_sI, gR_sL, t27, flt_flt]
  rw [s60, un, uS]
  generalize fst a1 a2 = f at *
  by_cases z : f = 0
  · have k121 : gI σ 121 (26 * (sF S - 1) + 1) = vt (rgV S 1) := by rw [q121, v1]
    rw [z, flt_0]
    generalize 26 * (sF S - 1) + 1 = x at *
    have s80 : RR (lkB tb536) (B536_60, [some (mR (some 80)), some (mI (x : Int)), none, none], [], σ) = (MM 520 [mR (some 80), mI (vt (rgV S 1))] σ).bind fun q => RR (lkB tb536) (B536_80, [some (mR (some 80)), some (mI (x : Int)), some (mI (vt (rgV S 1))), none], q.1.toList ++ [], q.2) := by
      simp only [e536_60, Option.getD_some, Option.bind_some, Option.toList_some, Option.toList_none, List.cons_append, List.nil_append, and_self, and_true, true_and, false_and, and_false, ite_self, not_true_eq_false, not_false_eq_true, reduceIte, Nat.reduceEqDiff, ab_I, ab_L, ab_R, ao_I, ao_L, ao_R, gL_sL, gI_sI, gR_sR, gI_sL, gI_sR, gL_sI, gL_sR, gR_sI, gR_sL, h5, g_121, b1.1, b1.2, Int.toNat_natCast, k121]
    rw [s80]
    refine okc_b (T520 h1 hF.2 hH) fun ρ q => ?_
    simp only [Option.toList_none, List.nil_append, e536_80, L536 (F := sF S) q.1.1 hF.2]
    refine okc_s ?_
    rw [if_pos trivial]
    exact ⟨ap_J0 (S := relH S (vt (rgV S 1))) hF.2 q.1, nq_t (ap_nq (by omega)) (rel_nq q.2.1 q.2.2.1 q.2.2.2)⟩
  · have gz : ¬ gI (flt σ f) 80 90 = 0 := by rw [fl_g, h5, fst0]; exact z
    simp only [e536_60, Option.getD_some, Option.bind_some, Option.toList_some, Option.toList_none, List.cons_append, List.nil_append, and_self, and_true, true_and, false_and, and_false, ite_self, not_true_eq_false, not_false_eq_true, reduceIte, Nat.reduceEqDiff, ab_I, ab_L, ab_R, ao_I, ao_L, ao_R, gL_sL, gI_sI, gR_sR, gI_sL, gI_sR, gL_sI, gL_sR, gR_sI, gR_sL, gz]
    refine okc_s ?_
    rw [if_neg z]
    exact sqc_r _
end HP2
