/-! ===== the class's jumps, whole ===== -/
section CGO
variable {τ σ ρ : MS} {k j : Nat} {E : EV} {w : B64} {S T : ST} {t n g i : Int} {x y : N6}
theorem spj_t {r : JR} (q : sfq ρ σ k j) (e3 : gI ρ k 3 = gI σ k 3) (e7 : gI ρ k 7 = gI σ k 7) (e6 : gR ρ k 6 = gR σ k 6) (h : spj ρ τ k j r) : spj σ τ k j r := by
  refine ⟨sfq_t h.1 q, fun z => ?_⟩
  have b := h.2 z
  obtain ⟨f, r1, r2, t'⟩ := r
  cases r1 with
  | none => exact ⟨b.1, b.2.1, b.2.2.1, b.2.2.2.trans e3⟩
  | some p1 =>
    cases r2 with
    | none => exact b
    | some p2 =>
      obtain ⟨b0, b1, b2', b3, b4⟩ := b
      exact ⟨b0, b1, b2', b3.trans e7, b4.trans e6⟩
theorem numJ_1 : (numJ S w g n t).1 = 0 := by
  unfold numJ
  split
  · rfl
  · split
    · rfl
    · split
      · rfl
      · split
        · split <;> rfl
        · split <;> rfl
theorem goal_c (h0 : ¬ fC w = 0) (h8 : ¬ fC w = 128) : goal i w = i + 1 + fO w := by
  unfold goal
  rw [if_neg]
  unfold fC at h0 h8
  omega
theorem T262g (H : SC σ k j E w) (hS : CSt σ k S) (ht : gI σ 40 8 = t) (h4 : gI σ 40 4 = i + 1) (h3 : gI σ 40 3 = 0) (hop : fOp w = 5 ∨ fOp w = 6) (hg : -2147483648 ≤ goal i w ∧ goal i w < 2147483648) : okc (MM 262 [mR (some 40)] σ) (some (mI 0)) (fun τ => spj σ τ k j (0, some (goal i w, S), none, t)) := by
  have c0 : fC w = 0 := by unfold fC; omega
  have sc := sc_c H
  refine okc_o (τ := sI σ 40 4 (goal i w)) ?_ ⟨sfq_i (by omega), fun _ => ⟨?_, CSt_i sc hS, ?_, ?_⟩⟩
  · rcases hop with h | h
    · have e : goal i w = i + 1 + fO w := by
        unfold goal
        rw [if_neg (by omega)]
      rw [e] at hg ⊢
      have i5 : iAnd (5 : Int) 240 = 0 := by rw [← h, mC, c0]
      simp only [M262, e262_0, e262_33, e262_43, Option.getD_some, Option.bind_some, Option.toList_some, Option.toList_none, List.cons_append, List.nil_append, and_self, and_true, true_and, false_and, and_false, ite_self, not_true_eq_false, not_false_eq_true, reduceIte, Nat.reduceEqDiff, ab_I, ab_L, ab_R, ao_I, ao_L, ao_R, gL_sL, gI_sI, gR_sR, gI_sL, gI_sR, gL_sI, gL_sR, gR_sI, gR_sL, sc_p H, sc_w H, mC, c0, h, i5, T3, h4, w32_i hg.1 hg.2]
    · have e : goal i w = i + 1 + fI w := by
        unfold goal
        rw [if_pos (by omega)]
      rw [e] at hg ⊢
      have n5 : ¬ fOp w = 5 := by omega
      simp only [M262, e262_0, e262_43, Option.getD_some, Option.bind_some, Option.toList_some, Option.toList_none, List.cons_append, List.nil_append, and_self, and_true, true_and, false_and, and_false, ite_self, not_true_eq_false, not_false_eq_true, reduceIte, Nat.reduceEqDiff, ab_I, ab_L, ab_R, ao_I, ao_L, ao_R, gL_sL, gI_sI, gR_sR, gI_sL, gI_sR, gL_sI, gL_sR, gR_sI, gR_sL, sc_p H, sc_w H, mC, c0, n5, T4, h4, w32_i hg.1 hg.2]
  · rw [gI_sI, if_neg (by omega)]; exact ht
  · rw [gI_sI, if_pos ⟨rfl, rfl⟩]
  · rw [gI_sI, if_neg (by omega)]; exact h3
abbrev cKa (S : ST) (w : B64) : Int := vk (rgV S (dR w))
abbrev cKb (S : ST) (w : B64) : Int := vk (sidJ S w)
abbrev smC (w : B64) : Prop := fC w = 16 ∨ fC w = 80
abbrev loc8 (w : B64) (a b : Int) : List (Option MV) := [some (mR (some 40)), some (mI (fC w)), some (mI (b2 (widJ w))), some (mI a), some (mI b), some (mI (b2 (smC w))), none, none]
theorem L262a (H : SC σ k j E w) (hS : CSt σ k S) (P : PX S E t) (h4 : gI σ 40 4 = i + 1) (h0 : ¬ fC w = 0) (h8 : ¬ fC w = 128) (hd : fD w ≤ 10) (hs : rgt w → fS w ≤ 10) (hg : -2147483648 ≤ goal i w ∧ goal i w < 2147483648) :
    MM 262 [mR (some 40)] σ = RR (lkB tb262) (B262_116, [some (mR (some 40)), some (mI (fC w)), some (mI (b2 (widJ w))), some (mI (cKa S w)), none, none, none, none], [mI (cKb S w)], sI σ 40 5 (goal i w)) := by
  have F := PX_F P
  have e := goal_c (i := i) h0 h8
  rw [e] at hg ⊢
  obtain ⟨σ1, h1⟩ : ∃ σ1, σ1 = sI σ 40 5 (i + 1 + fO w) := ⟨_, rfl⟩
  have q1 : sfq σ1 σ k j := by rw [h1]; exact sfq_i (by omega)
  have H1 := SC_q q1 H
  have S1 : CSt σ1 k S := by rw [h1]; exact CSt_i (sc_c H) hS
  have wg := w32_i hg.1 hg.2
  have t41 := T241 H1 S1 F hd
  have t43 := T243 H1
  have td := T214r H1 S1 P (r := dR w) (dR_10 hd)
  have p1 := sc_p H1
  have s81 : MM 262 [mR (some 40)] σ = RR (lkB tb262) (B262_81, [some (mR (some 40)), some (mI (fC w)), none, none, none, none, none, none], [mI (b2 (widJ w))], σ1) := by
    by_cases wd : fL w = 5
    · rw [b2_yes (p := widJ w) wd]
      simp only [M262, e262_0, e262_61, Option.getD_some, Option.bind_some, Option.toList_some, Option.toList_none, List.cons_append, List.nil_append, and_self, and_true, true_and, false_and, and_false, ite_self, not_true_eq_false, not_false_eq_true, reduceIte, Nat.reduceEqDiff, ab_I, ab_L, ab_R, ao_I, ao_L, ao_R, gL_sL, gI_sI, gR_sR, gI_sL, gI_sR, gL_sI, gL_sR, gR_sI, gR_sL, sc_p H, sc_w H, mC, eq_false h0, T3, h4, wg, ← h1, p1, m7, eq_true wd]
    · rw [b2_no (p := widJ w) wd]
      simp only [M262, e262_0, e262_61, Option.getD_some, Option.bind_some, Option.toList_some, Option.toList_none, List.cons_append, List.nil_append, and_self, and_true, true_and, false_and, and_false, ite_self, not_true_eq_false, not_false_eq_true, reduceIte, Nat.reduceEqDiff, ab_I, ab_L, ab_R, ao_I, ao_L, ao_R, gL_sL, gI_sI, gR_sR, gI_sL, gI_sR, gL_sI, gL_sR, gR_sI, gR_sL, sc_p H, sc_w H, mC, eq_false h0, T3, h4, wg, ← h1, p1, m7, eq_false wd]
  rw [← h1, s81]
  clear wg h1
  by_cases r : rgt w
  · have t42 := T242 H1 S1 F (hs r)
    have ts := T214r H1 S1 P (r := sRr w) (sR_10 (hs r))
    have eB : cKb S w = vk (rgV S (sRr w)) := by show vk (sidJ S w) = _; rw [sd_r r]; unfold rgtV; rw [if_pos r]
    rw [b2_yes r] at t43
    rw [eB]
    simp only [e262_81, e262_90, e262_93, e262_98, e262_109, e262_112, Option.getD_some, Option.bind_some, Option.toList_some, Option.toList_none, List.cons_append, List.nil_append, and_self, and_true, true_and, false_and, and_false, ite_self, not_true_eq_false, not_false_eq_true, reduceIte, Nat.reduceEqDiff, ab_I, ab_L, ab_R, ao_I, ao_L, ao_R, gL_sL, gI_sI, gR_sR, gI_sL, gI_sR, gL_sI, gL_sR, gR_sI, gR_sL, t41, sc_h H1, sc_ao H1, td, t43, oneI, t42, ts]
  · have eB : cKb S w = 1 := by show vk (sidJ S w) = _; rw [sd_i r]; rfl
    rw [b2_no r] at t43
    rw [eB]
    simp only [e262_81, e262_90, e262_93, e262_98, Option.getD_some, Option.bind_some, Option.toList_some, Option.toList_none, List.cons_append, List.nil_append, and_self, and_true, true_and, false_and, and_false, ite_self, not_true_eq_false, not_false_eq_true, reduceIte, Nat.reduceEqDiff, ab_I, ab_L, ab_R, ao_I, ao_L, ao_R, gL_sL, gI_sI, gR_sR, gI_sL, gI_sR, gL_sI, gL_sR, gR_sI, gR_sL, t41, sc_h H1, sc_ao H1, td, t43]
theorem L262b (a : ¬ cKa S w = 0) (b : ¬ cKb S w = 0) : RR (lkB tb262) (B262_116, [some (mR (some 40)), some (mI (fC w)), some (mI (b2 (widJ w))), some (mI (cKa S w)), none, none, none, none], [mI (cKb S w)], σ) = RR (lkB tb262) (B262_146, [some (mR (some 40)), some (mI (fC w)), some (mI (b2 (widJ w))), some (mI (cKa S w)), some (mI (cKb S w)), none, none, none], [mI (b2 (smC w))], σ) := by
  by_cases c1 : fC w = 16
  · rw [b2_yes (p := smC w) (Or.inl c1)]
    simp only [e262_116, e262_141, Option.getD_some, Option.bind_some, Option.toList_some, Option.toList_none, List.cons_append, List.nil_append, and_self, and_true, true_and, false_and, and_false, ite_self, not_true_eq_false, not_false_eq_true, reduceIte, Nat.reduceEqDiff, ab_I, ab_L, ab_R, ao_I, ao_L, ao_R, gL_sL, gI_sI, gR_sR, gI_sL, gI_sR, gL_sI, gL_sR, gR_sI, gR_sL, eq_false a, eq_false b, eq_true c1]
  · by_cases c5 : fC w = 80
    · rw [b2_yes (p := smC w) (Or.inr c5)]
      simp only [e262_116, e262_141, Option.getD_some, Option.bind_some, Option.toList_some, Option.toList_none, List.cons_append, List.nil_append, and_self, and_true, true_and, false_and, and_false, ite_self, not_true_eq_false, not_false_eq_true, reduceIte, Nat.reduceEqDiff, ab_I, ab_L, ab_R, ao_I, ao_L, ao_R, gL_sL, gI_sI, gR_sR, gI_sL, gI_sR, gL_sI, gL_sR, gR_sI, gR_sL, eq_false a, eq_false b, eq_false c1, eq_true c5]
    · rw [b2_no (p := smC w) (fun z => z.elim c1 c5)]
      simp only [e262_116, e262_141, Option.getD_some, Option.bind_some, Option.toList_some, Option.toList_none, List.cons_append, List.nil_append, and_self, and_true, true_and, false_and, and_false, ite_self, not_true_eq_false, not_false_eq_true, reduceIte, Nat.reduceEqDiff, ab_I, ab_L, ab_R, ao_I, ao_L, ao_R, gL_sL, gI_sI, gR_sR, gI_sL, gI_sR, gL_sI, gL_sR, gR_sI, gR_sL, eq_false a, eq_false b, eq_false c1, eq_false c5]
abbrev ntC (S : ST) (w : B64) : Prop := ((¬ rgt w ∧ widJ w) ∧ (fC w = 16 ∨ fC w = 80) ∧ fI w = 0) ∧ ¬ cKa S w = 1
theorem L262c (H : SC σ k j E w) (h : ¬ ntC S w) : RR (lkB tb262) (B262_146, [some (mR (some 40)), some (mI (fC w)), some (mI (b2 (widJ w))), some (mI (cKa S w)), some (mI (cKb S w)), none, none, none], [mI (b2 (smC w))], σ) = RR (lkB tb262) (B262_200, loc8 w (cKa S w) (cKb S w), [], σ) := by
  unfold loc8
  have t43 := T243 H
  by_cases wd : widJ w
  · rw [b2_yes wd]
    by_cases sm : smC w
    · rw [b2_yes sm]
      by_cases r : rgt w
      · rw [b2_yes r] at t43
        simp only [e262_146, e262_161, Option.getD_some, Option.bind_some, Option.toList_some, Option.toList_none, List.cons_append, List.nil_append, and_self, and_true, true_and, false_and, and_false, ite_self, not_true_eq_false, not_false_eq_true, reduceIte, Nat.reduceEqDiff, ab_I, ab_L, ab_R, ao_I, ao_L, ao_R, gL_sL, gI_sI, gR_sR, gI_sL, gI_sR, gL_sI, gL_sR, gR_sI, gR_sL, oneI, t43]
      · rw [b2_no r] at t43
        by_cases f : fI w = 0
        · by_cases k1 : cKa S w = 1
          · simp only [e262_146, e262_161, e262_171, Option.getD_some, Option.bind_some, Option.toList_some, Option.toList_none, List.cons_append, List.nil_append, and_self, and_true, true_and, false_and, and_false, ite_self, not_true_eq_false, not_false_eq_true, reduceIte, Nat.reduceEqDiff, ab_I, ab_L, ab_R, ao_I, ao_L, ao_R, gL_sL, gI_sI, gR_sR, gI_sL, gI_sR, gL_sI, gL_sR, gR_sI, gR_sL, oneI, t43, sc_w H, T4, eq_true f, eq_true k1]
          · exact absurd ⟨⟨⟨r, wd⟩, sm, f⟩, k1⟩ h
        · simp only [e262_146, e262_161, e262_171, Option.getD_some, Option.bind_some, Option.toList_some, Option.toList_none, List.cons_append, List.nil_append, and_self, and_true, true_and, false_and, and_false, ite_self, not_true_eq_false, not_false_eq_true, reduceIte, Nat.reduceEqDiff, ab_I, ab_L, ab_R, ao_I, ao_L, ao_R, gL_sL, gI_sI, gR_sR, gI_sL, gI_sR, gL_sI, gL_sR, gR_sI, gR_sL, oneI, t43, sc_w H, T4, eq_false f]
    · rw [b2_no sm]
      simp only [e262_146, Option.getD_some, Option.bind_some, Option.toList_some, Option.toList_none, List.cons_append, List.nil_append, and_self, and_true, true_and, false_and, and_false, ite_self, not_true_eq_false, not_false_eq_true, reduceIte, Nat.reduceEqDiff, ab_I, ab_L, ab_R, ao_I, ao_L, ao_R, gL_sL, gI_sI, gR_sR, gI_sL, gI_sR, gL_sI, gL_sR, gR_sI, gR_sL, oneI]
  · rw [b2_no wd]
    simp only [e262_146, Option.getD_some, Option.bind_some, Option.toList_some, Option.toList_none, List.cons_append, List.nil_append, and_self, and_true, true_and, false_and, and_false, ite_self, not_true_eq_false, not_false_eq_true, reduceIte, Nat.reduceEqDiff, ab_I, ab_L, ab_R, ao_I, ao_L, ao_R, gL_sL, gI_sI, gR_sR, gI_sL, gI_sR, gL_sI, gL_sR, gR_sI, gR_sL]
theorem L262d (H : SC σ k j E w) (h : ntC S w) : RR (lkB tb262) (B262_146, [some (mR (some 40)), some (mI (fC w)), some (mI (b2 (widJ w))), some (mI (cKa S w)), some (mI (cKb S w)), none, none, none], [mI (b2 (smC w))], σ) = RR (lkB tb262) (B262_195, loc8 w (cKa S w) (cKb S w), [mI (b2 (fC w = 16)), mI (b2 (isMb (rgV S (dR w)))), mR (some 40)], σ) := by
  unfold loc8
  obtain ⟨⟨⟨r, wd⟩, sm, f⟩, k1⟩ := h
  have t43 := T243 H
  rw [b2_no r] at t43
  rw [b2_yes wd, b2_yes (p := smC w) sm]
  have t44 : MM 244 [mI (cKa S w)] σ = some (some (mI (b2 (isMb (rgV S (dR w))))), σ) := T244
  by_cases c1 : fC w = 16
  · rw [b2_yes c1]
    simp only [e262_146, e262_161, e262_171, e262_184, Option.getD_some, Option.bind_some, Option.toList_some, Option.toList_none, List.cons_append, List.nil_append, and_self, and_true, true_and, false_and, and_false, ite_self, not_true_eq_false, not_false_eq_true, reduceIte, Nat.reduceEqDiff, ab_I, ab_L, ab_R, ao_I, ao_L, ao_R, gL_sL, gI_sI, gR_sR, gI_sL, gI_sR, gL_sI, gL_sR, gR_sI, gR_sL, oneI, t43, sc_w H, T4, eq_true f, eq_false k1, t44, eq_true c1]
  · rw [b2_no c1]
    simp only [e262_146, e262_161, e262_171, e262_184, Option.getD_some, Option.bind_some, Option.toList_some, Option.toList_none, List.cons_append, List.nil_append, and_self, and_true, true_and, false_and, and_false, ite_self, not_true_eq_false, not_false_eq_true, reduceIte, Nat.reduceEqDiff, ab_I, ab_L, ab_R, ao_I, ao_L, ao_R, gL_sL, gI_sI, gR_sR, gI_sL, gI_sR, gL_sI, gL_sR, gR_sI, gR_sL, oneI, t43, sc_w H, T4, eq_true f, eq_false k1, t44, eq_false c1]
abbrev pwC (S : ST) (w : B64) : Prop := cKa S w = 7 ∧ cKb S w = 8
theorem L262e {a b : Int} : RR (lkB tb262) (B262_245, loc8 w a b, [], σ) = RR (lkB tb262) (B262_296, [some (mR (some 40)), some (mI (fC w)), some (mI (b2 (widJ w))), some (mI a), some (mI b), some (mI (b2 (smC w))), some (mI (b2 (isOrd (fC w)))), none], [mI (b2 (a = 7 ∧ b = 8))], σ) := by
  have s276 : RR (lkB tb262) (B262_245, loc8 w a b, [], σ) = RR (lkB tb262) (B262_276, loc8 w a b, [mI (b2 (isOrd (fC w)))], σ) := by
    by_cases c1 : fC w = 32
    · rw [b2_yes (p := isOrd (fC w)) (Or.inl c1)]
      simp only [e262_245, e262_271, Option.getD_some, Option.bind_some, Option.toList_some, Option.toList_none, List.cons_append, List.nil_append, and_self, and_true, true_and, false_and, and_false, ite_self, not_true_eq_false, not_false_eq_true, reduceIte, Nat.reduceEqDiff, ab_I, ab_L, ab_R, ao_I, ao_L, ao_R, gL_sL, gI_sI, gR_sR, gI_sL, gI_sR, gL_sI, gL_sR, gR_sI, gR_sL, eq_true c1]
    · by_cases c2 : fC w = 48
      · rw [b2_yes (p := isOrd (fC w)) (Or.inr (Or.inl c2))]
        simp only [e262_245, e262_271, Option.getD_some, Option.bind_some, Option.toList_some, Option.toList_none, List.cons_append, List.nil_append, and_self, and_true, true_and, false_and, and_false, ite_self, not_true_eq_false, not_false_eq_true, reduceIte, Nat.reduceEqDiff, ab_I, ab_L, ab_R, ao_I, ao_L, ao_R, gL_sL, gI_sI, gR_sR, gI_sL, gI_sR, gL_sI, gL_sR, gR_sI, gR_sL, eq_false c1, eq_true c2]
      · by_cases c3 : fC w = 160
        · rw [b2_yes (p := isOrd (fC w)) (Or.inr (Or.inr (Or.inl c3)))]
          simp only [e262_245, e262_271, Option.getD_some, Option.bind_some, Option.toList_some, Option.toList_none, List.cons_append, List.nil_append, and_self, and_true, true_and, false_and, and_false, ite_self, not_true_eq_false, not_false_eq_true, reduceIte, Nat.reduceEqDiff, ab_I, ab_L, ab_R, ao_I, ao_L, ao_R, gL_sL, gI_sI, gR_sR, gI_sL, gI_sR, gL_sI, gL_sR, gR_sI, gR_sL, eq_false c1, eq_false c2, eq_true c3]
        · by_cases c4 : fC w = 176
          · rw [b2_yes (p := isOrd (fC w)) (Or.inr (Or.inr (Or.inr c4)))]
            simp only [e262_245, e262_271, Option.getD_some, Option.bind_some, Option.toList_some, Option.toList_none, List.cons_append, List.nil_append, and_self, and_true, true_and, false_and, and_false, ite_self, not_true_eq_false, not_false_eq_true, reduceIte, Nat.reduceEqDiff, ab_I, ab_L, ab_R, ao_I, ao_L, ao_R, gL_sL, gI_sI, gR_sR, gI_sL, gI_sR, gL_sI, gL_sR, gR_sI, gR_sL, eq_false c1, eq_false c2, eq_false c3, eq_true c4]
          · rw [b2_no (p := isOrd (fC w)) (fun z => by rcases z with z | z | z | z <;> contradiction)]
            simp only [e262_245, e262_271, Option.getD_some, Option.bind_some, Option.toList_some, Option.toList_none, List.cons_append, List.nil_append, and_self, and_true, true_and, false_and, and_false, ite_self, not_true_eq_false, not_false_eq_true, reduceIte, Nat.reduceEqDiff, ab_I, ab_L, ab_R, ao_I, ao_L, ao_R, gL_sL, gI_sI, gR_sR, gI_sL, gI_sR, gL_sI, gL_sR, gR_sI, gR_sL, eq_false c1, eq_false c2, eq_false c3, eq_false c4]
  rw [s276]
  by_cases a7 : a = 7
  · by_cases b8 : b = 8
    · rw [b2_yes (p := a = 7 ∧ b = 8) ⟨a7, b8⟩]
      simp only [e262_276, e262_295, Option.getD_some, Option.bind_some, Option.toList_some, Option.toList_none, List.cons_append, List.nil_append, and_self, and_true, true_and, false_and, and_false, ite_self, not_true_eq_false, not_false_eq_true, reduceIte, Nat.reduceEqDiff, ab_I, ab_L, ab_R, ao_I, ao_L, ao_R, gL_sL, gI_sI, gR_sR, gI_sL, gI_sR, gL_sI, gL_sR, gR_sI, gR_sL, eq_true a7, eq_true b8]
    · rw [b2_no (p := a = 7 ∧ b = 8) (fun z => b8 z.2)]
      simp only [e262_276, e262_295, Option.getD_some, Option.bind_some, Option.toList_some, Option.toList_none, List.cons_append, List.nil_append, and_self, and_true, true_and, false_and, and_false, ite_self, not_true_eq_false, not_false_eq_true, reduceIte, Nat.reduceEqDiff, ab_I, ab_L, ab_R, ao_I, ao_L, ao_R, gL_sL, gI_sI, gR_sR, gI_sL, gI_sR, gL_sI, gL_sR, gR_sI, gR_sL, eq_true a7, eq_false b8]
  · rw [b2_no (p := a = 7 ∧ b = 8) (fun z => a7 z.1)]
    simp only [e262_276, e262_295, Option.getD_some, Option.bind_some, Option.toList_some, Option.toList_none, List.cons_append, List.nil_append, and_self, and_true, true_and, false_and, and_false, ite_self, not_true_eq_false, not_false_eq_true, reduceIte, Nat.reduceEqDiff, ab_I, ab_L, ab_R, ao_I, ao_L, ao_R, gL_sL, gI_sI, gR_sR, gI_sL, gI_sR, gL_sI, gL_sR, gR_sI, gR_sL, eq_false a7]
theorem T262c (H : SC σ k j E w) (hS : CSt σ k S) (P : PX S E t) (ht : gI σ 40 8 = t) (h4 : gI σ 40 4 = i + 1) (h3 : gI σ 40 3 = 0) (hl : ak σ 2 (gR σ k 6)) (h0 : ¬ fC w = 0) (hc : isCmp (fC w)) (h56 : fL w = 5 ∨ fL w = 6) (hd : fD w ≤ 10) (hs : rgt w → fS w ≤ 10) (hg : -2147483648 ≤ goal i w ∧ goal i w < 2147483648) :
    okc (MM 262 [mR (some 40)] σ) (some (mI (cmpJ S w (goal i w) (i + 1) t).1)) (fun τ => spj σ τ k j (cmpJ S w (goal i w) (i + 1) t)) := by
  have F := PX_F P
  have h8 : ¬ fC w = 128 := fun z => by rw [z] at hc; exact absurd hc (by decide)
  rw [L262a H hS P h4 h0 h8 hd hs hg]
  obtain ⟨σ1, e1⟩ : ∃ σ1, σ1 = sI σ 40 5 (goal i w) := ⟨_, rfl⟩
  rw [← e1]
  have q1 : sfq σ1 σ k j := by rw [e1]; exact sfq_i (by omega)
  have H1 := SC_q q1 H
  have S1 : CSt σ1 k S := by rw [e1]; exact CSt_i (sc_c H) hS
  have u8 : gI σ1 40 8 = t := by rw [e1, gI_sI, if_neg (by omega)]; exact ht
  have u4 : gI σ1 40 4 = i + 1 := by rw [e1, gI_sI, if_neg (by omega)]; exact h4
  have u5 : gI σ1 40 5 = goal i w := by rw [e1, gI_sI, if_pos ⟨rfl, rfl⟩]
  have u3 : gI σ1 40 3 = 0 := by rw [e1, gI_sI, if_neg (by omega)]; exact h3
  have l1 : ak σ1 2 (gR σ1 k 6) := by rw [e1]; exact hl
  have v33 : gI σ1 k 3 = gI σ k 3 := by rw [e1, gI_sI, if_neg (by have := sc_c H; omega)]
  have v7 : gI σ1 k 7 = gI σ k 7 := by rw [e1, gI_sI, if_neg (by have := sc_c H; omega)]
  have v6 : gR σ1 k 6 = gR σ k 6 := by rw [e1]; rfl
  clear e1 hS ht h4 h3 hl H
  generalize hgg : goal i w = g at *
  generalize hnn : i + 1 = n at *
  suffices h : okc (RR (lkB tb262) (B262_116, [some (mR (some 40)), some (mI (fC w)), some (mI (b2 (widJ w))), some (mI (cKa S w)), none, none, none, none], [mI (cKb S w)], σ1)) (some (mI (cmpJ S w g n t).1)) (fun τ => spj σ1 τ k j (cmpJ S w g n t)) by
    obtain ⟨τ, a, b⟩ := h
    exact ⟨τ, a, spj_t q1 v33 v7 v6 b⟩
  unfold cmpJ
  by_cases z0 : cKa S w = 0 ∨ cKb S w = 0
  · rw [if_pos z0]
    refine okc_o (τ := σ1) ?_ (spj_f (by decide) (sfq_r _ _ _))
    by_cases za : cKa S w = 0
    · simp only [e262_116, Option.getD_some, Option.bind_some, Option.toList_some, Option.toList_none, List.cons_append, List.nil_append, and_self, and_true, true_and, false_and, and_false, ite_self, not_true_eq_false, not_false_eq_true, reduceIte, Nat.reduceEqDiff, ab_I, ab_L, ab_R, ao_I, ao_L, ao_R, gL_sL, gI_sI, gR_sR, gI_sL, gI_sR, gL_sI, gL_sR, gR_sI, gR_sL, eq_true za]
    · have zb := z0.resolve_left za
      simp only [e262_116, Option.getD_some, Option.bind_some, Option.toList_some, Option.toList_none, List.cons_append, List.nil_append, and_self, and_true, true_and, false_and, and_false, ite_self, not_true_eq_false, not_false_eq_true, reduceIte, Nat.reduceEqDiff, ab_I, ab_L, ab_R, ao_I, ao_L, ao_R, gL_sL, gI_sI, gR_sR, gI_sL, gI_sR, gL_sI, gL_sR, gR_sI, gR_sL, eq_false za, eq_true zb]
  · rw [if_neg z0, L262b (fun z => z0 (Or.inl z)) (fun z => z0 (Or.inr z))]
    have t44a : MM 244 [mI (cKa S w)] σ1 = some (some (mI (b2 (isMb (rgV S (dR w))))), σ1) := T244
    have t44b : MM 244 [mI (cKb S w)] σ1 = some (some (mI (b2 (isMb (sidJ S w)))), σ1) := T244
    by_cases nn : cKa S w = 1 ∧ cKb S w = 1
    · rw [if_pos nn, L262c H1 (fun z => z.2 nn.1)]
      have na : ¬ isMb (rgV S (dR w)) := fun z => by
        have z : cKa S w = 6 ∨ cKa S w = 10 := z
        omega
      have nb : ¬ isMb (sidJ S w) := fun z => by
        have z : cKb S w = 6 ∨ cKb S w = 10 := z
        omega
      rw [b2_no na] at t44a
      rw [b2_no nb] at t44b
      rw [numJ_1]
      have s212 : RR (lkB tb262) (B262_200, loc8 w (cKa S w) (cKb S w), [], σ1) = (MM 267 [mR (some 40), mI (fC w), mI (b2 (widJ w))] σ1).bind (fun q => RR (lkB tb262) (B262_235, loc8 w (cKa S w) (cKb S w), q.1.toList ++ [], q.2)) := by
        simp only [e262_200, e262_204, e262_212, Option.getD_some, Option.bind_some, Option.toList_some, Option.toList_none, List.cons_append, List.nil_append, and_self, and_true, true_and, false_and, and_false, ite_self, not_true_eq_false, not_false_eq_true, reduceIte, Nat.reduceEqDiff, ab_I, ab_L, ab_R, ao_I, ao_L, ao_R, gL_sL, gI_sI, gR_sR, gI_sL, gI_sR, gL_sI, gL_sR, gR_sI, gR_sL, t44a, t44b, eq_true nn.1, eq_true nn.2]
      rw [s212]
      have d9 : fD w ≤ 9 := by
        apply Classical.byContradiction
        intro z
        have e : dR w = 10 := by show (fD w).toNat = 10; omega
        have : cKa S w = 3 := by
          show vk (rgV S (dR w)) = 3
          rw [e]
          rfl
        omega
      have s9 : rgt w → fS w ≤ 9 := fun r => by
        apply Classical.byContradiction
        intro z
        have := hs r
        have e : sRr w = 10 := by show (fS w).toNat = 10; omega
        have : cKb S w = 3 := by
          show vk (sidJ S w) = 3
          rw [sd_r r]
          unfold rgtV
          rw [if_pos r, e]
          rfl
        omega
      rcases T267 H1 S1 P u8 u4 u5 u3 l1 hd hs hc h56 nn.1 nn.2 with ⟨τ, a, b⟩ | ⟨⟨dn, np⟩, τ, a, ⟨q, e42, e43⟩⟩
      · rw [a]
        refine okc_o (τ := τ) ?_ b
        simp only [e262_235, e262_243, Option.getD_some, Option.bind_some, Option.toList_some, Option.toList_none, List.cons_append, List.nil_append, and_self, and_true, true_and, false_and, and_false, ite_self, not_true_eq_false, not_false_eq_true, reduceIte, Nat.reduceEqDiff, ab_I, ab_L, ab_R, ao_I, ao_L, ao_R, gL_sL, gI_sI, gR_sR, gI_sL, gI_sR, gL_sI, gL_sR, gR_sI, gR_sL, oneI]
      · rw [a]
        have hx : lowA (vn (rgV S (dR w))) := (x_r P.2.2.1 P.1.1.1 (dR_10 hd)).1.2.2.2 nn.1
        have l2 : ak τ 2 (gR τ k 6) := by
          rw [gR_r q.2.2]
          intro z
          have := l1 z
          rwa [kd_r q.2.2]
        obtain ⟨τ2, a2, b2'⟩ := T280 (SC_n q H1) (CSt_n (sc_c H1) q S1) P ((q.1 _ _).trans u8) ((q.1 _ _).trans u4) ((q.1 _ _).trans u5) ((q.1 _ _).trans u3) l2 d9 s9 hc e42 e43 hx dn np
        refine okc_o (τ := τ2) ?_ (spj_t (sfq_n q) (q.1 _ _) (q.1 _ _) (gR_r q.2.2) b2')
        simp only [e262_235, e262_243, Option.getD_some, Option.bind_some, Option.toList_some, Option.toList_none, List.cons_append, List.nil_append, and_self, and_true, true_and, false_and, and_false, ite_self, not_true_eq_false, not_false_eq_true, reduceIte, Nat.reduceEqDiff, ab_I, ab_L, ab_R, ao_I, ao_L, ao_R, gL_sL, gI_sI, gR_sR, gI_sL, gI_sR, gL_sI, gL_sR, gR_sI, gR_sL, a2]
    · rw [if_neg nn]
      by_cases nt : ntC S w
      · rw [L262d H1 nt]
        obtain ⟨nt1, k1⟩ := nt
        by_cases mb : isMb (rgV S (dR w))
        · rw [if_pos ⟨nt1, mb⟩, b2_yes mb]
          have z01 : b2 (fC w = 16) = 0 ∨ b2 (fC w = 16) = 1 := by
            by_cases c : fC w = 16
            · rw [b2_yes c]; exact Or.inr rfl
            · rw [b2_no c]; exact Or.inl rfl
          obtain ⟨τ, a, b⟩ := T264 H1 S1 P u8 u4 u5 hd l1 mb z01
          by_cases c : fC w = 16
          · rw [b2_yes c] at a b ⊢
            rw [if_pos c]
            rw [if_pos rfl] at b
            refine okc_o (τ := τ) ?_ b
            simp only [e262_195, e262_198, Option.getD_some, Option.bind_some, Option.toList_some, Option.toList_none, List.cons_append, List.nil_append, and_self, and_true, true_and, false_and, and_false, ite_self, not_true_eq_false, not_false_eq_true, reduceIte, Nat.reduceEqDiff, ab_I, ab_L, ab_R, ao_I, ao_L, ao_R, gL_sL, gI_sI, gR_sR, gI_sL, gI_sR, gL_sI, gL_sR, gR_sI, gR_sL, a]
          · rw [b2_no c] at a b ⊢
            rw [if_neg c]
            rw [if_neg (by decide)] at b
            refine okc_o (τ := τ) ?_ b
            simp only [e262_195, e262_198, Option.getD_some, Option.bind_some, Option.toList_some, Option.toList_none, List.cons_append, List.nil_append, and_self, and_true, true_and, false_and, and_false, ite_self, not_true_eq_false, not_false_eq_true, reduceIte, Nat.reduceEqDiff, ab_I, ab_L, ab_R, ao_I, ao_L, ao_R, gL_sL, gI_sI, gR_sR, gI_sL, gI_sR, gL_sI, gL_sR, gR_sI, gR_sL, a]
        · rw [if_neg (fun z => mb z.2), if_pos nt1, b2_no mb]
          by_cases c : fC w = 16
          · have c5 : ¬ fC w = 80 := by omega
            rw [b2_yes c, if_neg c5]
            refine okc_o (τ := sI σ1 40 4 (gI σ1 40 4)) ?_ ⟨sfq_i (by omega), fun _ => ⟨?_, CSt_i (sc_c H1) S1, ?_, ?_⟩⟩
            · simp only [e262_195, e262_198, M264, e264_0, Option.getD_some, Option.bind_some, Option.toList_some, Option.toList_none, List.cons_append, List.nil_append, and_self, and_true, true_and, false_and, and_false, ite_self, not_true_eq_false, not_false_eq_true, reduceIte, Nat.reduceEqDiff, ab_I, ab_L, ab_R, ao_I, ao_L, ao_R, gL_sL, gI_sI, gR_sR, gI_sL, gI_sR, gL_sI, gL_sR, gR_sI, gR_sL, oneI]
            · rw [gI_sI, if_neg (by omega)]; exact u8
            · rw [gI_sI, if_pos ⟨rfl, rfl⟩]; exact u4
            · rw [gI_sI, if_neg (by omega)]; exact u3
          · have c5 : fC w = 80 := nt1.2.1.resolve_left c
            rw [b2_no c, if_pos c5]
            refine okc_o (τ := sI σ1 40 4 (gI σ1 40 5)) ?_ ⟨sfq_i (by omega), fun _ => ⟨?_, CSt_i (sc_c H1) S1, ?_, ?_⟩⟩
            · simp only [e262_195, e262_198, M264, e264_0, Option.getD_some, Option.bind_some, Option.toList_some, Option.toList_none, List.cons_append, List.nil_append, and_self, and_true, true_and, false_and, and_false, ite_self, not_true_eq_false, not_false_eq_true, reduceIte, Nat.reduceEqDiff, ab_I, ab_L, ab_R, ao_I, ao_L, ao_R, gL_sL, gI_sI, gR_sR, gI_sL, gI_sR, gL_sI, gL_sR, gR_sI, gR_sL]
            · rw [gI_sI, if_neg (by omega)]; exact u8
            · rw [gI_sI, if_pos ⟨rfl, rfl⟩]; exact u5
            · rw [gI_sI, if_neg (by omega)]; exact u3
      · rw [L262c H1 nt]
        have nt0 : ¬ ((¬ rgt w ∧ widJ w) ∧ (fC w = 16 ∨ fC w = 80) ∧ fI w = 0) := fun z => by
          have k1 : cKa S w = 1 := Classical.byContradiction fun q => nt ⟨z, q⟩
          have kb : cKb S w = 1 := by show vk (sidJ S w) = 1; rw [sd_i z.1.1]; rfl
          exact nn ⟨k1, kb⟩
        rw [if_neg (fun z => nt0 z.1), if_neg nt0]
        by_cases ma : isMb (rgV S (dR w))
        · rw [if_pos (Or.inl ma)]
          rw [b2_yes ma] at t44a
          refine okc_o (τ := σ1) ?_ (spj_f (by decide) (sfq_r _ _ _))
          simp only [e262_200, e262_204, Option.getD_some, Option.bind_some, Option.toList_some, Option.toList_none, List.cons_append, List.nil_append, and_self, and_true, true_and, false_and, and_false, ite_self, not_true_eq_false, not_false_eq_true, reduceIte, Nat.reduceEqDiff, ab_I, ab_L, ab_R, ao_I, ao_L, ao_R, gL_sL, gI_sI, gR_sR, gI_sL, gI_sR, gL_sI, gL_sR, gR_sI, gR_sL, t44a, oneI]
        · rw [b2_no ma] at t44a
          by_cases mb : isMb (sidJ S w)
          · rw [if_pos (Or.inr mb)]
            rw [b2_yes mb] at t44b
            refine okc_o (τ := σ1) ?_ (spj_f (by decide) (sfq_r _ _ _))
            simp only [e262_200, e262_204, e262_212, Option.getD_some, Option.bind_some, Option.toList_some, Option.toList_none, List.cons_append, List.nil_append, and_self, and_true, true_and, false_and, and_false, ite_self, not_true_eq_false, not_false_eq_true, reduceIte, Nat.reduceEqDiff, ab_I, ab_L, ab_R, ao_I, ao_L, ao_R, gL_sL, gI_sI, gR_sR, gI_sL, gI_sR, gL_sI, gL_sR, gR_sI, gR_sL, t44a, t44b, oneI]
          · rw [if_neg (fun z => z.elim ma mb)]
            rw [b2_no mb] at t44b
            have s296 : RR (lkB tb262) (B262_200, loc8 w (cKa S w) (cKb S w), [], σ1) = RR (lkB tb262) (B262_296, [some (mR (some 40)), some (mI (fC w)), some (mI (b2 (widJ w))), some (mI (cKa S w)), some (mI (cKb S w)), some (mI (b2 (smC w))), some (mI (b2 (isOrd (fC w)))), none], [mI (b2 (cKa S w = 7 ∧ cKb S w = 8))], σ1) := by
              rw [← L262e]
              by_cases k1 : cKa S w = 1
              · have kb : ¬ cKb S w = 1 := fun z => nn ⟨k1, z⟩
                simp only [e262_200, e262_204, e262_212, Option.getD_some, Option.bind_some, Option.toList_some, Option.toList_none, List.cons_append, List.nil_append, and_self, and_true, true_and, false_and, and_false, ite_self, not_true_eq_false, not_false_eq_true, reduceIte, Nat.reduceEqDiff, ab_I, ab_L, ab_R, ao_I, ao_L, ao_R, gL_sL, gI_sI, gR_sR, gI_sL, gI_sR, gL_sI, gL_sR, gR_sI, gR_sL, t44a, t44b, eq_true k1, eq_false kb]
              · simp only [e262_200, e262_204, e262_212, Option.getD_some, Option.bind_some, Option.toList_some, Option.toList_none, List.cons_append, List.nil_append, and_self, and_true, true_and, false_and, and_false, ite_self, not_true_eq_false, not_false_eq_true, reduceIte, Nat.reduceEqDiff, ab_I, ab_L, ab_R, ao_I, ao_L, ao_R, gL_sL, gI_sI, gR_sR, gI_sL, gI_sR, gL_sI, gL_sR, gR_sI, gR_sL, t44a, t44b, eq_false k1]
            rw [s296]
            clear s296 t44a t44b
            have rr : cKb S w = 7 ∨ cKb S w = 8 → rgt w := fun z => by
              apply Classical.byContradiction
              intro r
              have kb : cKb S w = 1 := by show vk (sidJ S w) = 1; rw [sd_i r]; rfl
              omega
            by_cases wo : widJ w ∧ isOrd (fC w)
            · by_cases p78 : cKa S w = 7 ∧ cKb S w = 8
              · have r := rr (Or.inr p78.2)
                rw [if_pos ⟨⟨wo.1, r⟩, wo.2, p78.1, p78.2⟩, b2_yes p78, b2_yes wo.1, b2_yes wo.2]
                obtain ⟨τ, a, b⟩ := T265 (z := 1) H1 S1 P u8 u4 u5 hd (hs r) l1 (Or.inr rfl) wo.2
                rw [if_pos rfl, if_pos rfl] at b
                refine okc_o (τ := τ) ?_ b
                simp only [e262_296, e262_325, e262_332, Option.getD_some, Option.bind_some, Option.toList_some, Option.toList_none, List.cons_append, List.nil_append, and_self, and_true, true_and, false_and, and_false, ite_self, not_true_eq_false, not_false_eq_true, reduceIte, Nat.reduceEqDiff, ab_I, ab_L, ab_R, ao_I, ao_L, ao_R, gL_sL, gI_sI, gR_sR, gI_sL, gI_sR, gL_sI, gL_sR, gR_sI, gR_sL, oneI, a]
                rfl
              · rw [if_neg (fun z => p78 ⟨z.2.2.1, z.2.2.2⟩), b2_no p78]
                by_cases p87 : cKa S w = 8 ∧ cKb S w = 7
                · have r := rr (Or.inl p87.2)
                  rw [if_pos ⟨⟨wo.1, r⟩, wo.2, p87.1, p87.2⟩, b2_yes wo.1, b2_yes wo.2]
                  have es : sidJ S w = rgV S (sRr w) := by rw [sd_r r]; unfold rgtV; rw [if_pos r]
                  obtain ⟨τ, a, b⟩ := T265 (z := 0) H1 S1 P u8 u4 u5 hd (hs r) l1 (Or.inl rfl) wo.2
                  rw [if_neg (show ¬ (0 : Int) = 1 by decide), if_neg (show ¬ (0 : Int) = 1 by decide)] at b
                  rw [es]
                  refine okc_o (τ := τ) ?_ b
                  have ka : cKa S w = 8 := p87.1
                  simp only [e262_296, e262_325, e262_332, Option.getD_some, Option.bind_some, Option.toList_some, Option.toList_none, List.cons_append, List.nil_append, and_self, and_true, true_and, false_and, and_false, ite_self, not_true_eq_false, not_false_eq_true, reduceIte, Nat.reduceEqDiff, ab_I, ab_L, ab_R, ao_I, ao_L, ao_R, gL_sL, gI_sI, gR_sR, gI_sL, gI_sR, gL_sI, gL_sR, gR_sI, gR_sL, oneI, eq_true ka, eq_true p87.2, a]
                  rfl
                · rw [if_neg (fun z => p87 ⟨z.2.2.1, z.2.2.2⟩)]
                  refine okc_o (τ := σ1) ?_ (spj_f (by decide) (sfq_r _ _ _))
                  rw [b2_yes wo.1, b2_yes wo.2]
                  by_cases ka : cKa S w = 8
                  · have kb : ¬ cKb S w = 7 := fun z => p87 ⟨ka, z⟩
                    simp only [e262_296, Option.getD_some, Option.bind_some, Option.toList_some, Option.toList_none, List.cons_append, List.nil_append, and_self, and_true, true_and, false_and, and_false, ite_self, not_true_eq_false, not_false_eq_true, reduceIte, Nat.reduceEqDiff, ab_I, ab_L, ab_R, ao_I, ao_L, ao_R, gL_sL, gI_sI, gR_sR, gI_sL, gI_sR, gL_sI, gL_sR, gR_sI, gR_sL, oneI, eq_true ka, eq_false kb]
                  · simp only [e262_296, Option.getD_some, Option.bind_some, Option.toList_some, Option.toList_none, List.cons_append, List.nil_append, and_self, and_true, true_and, false_and, and_false, ite_self, not_true_eq_false, not_false_eq_true, reduceIte, Nat.reduceEqDiff, ab_I, ab_L, ab_R, ao_I, ao_L, ao_R, gL_sL, gI_sI, gR_sR, gI_sL, gI_sR, gL_sI, gL_sR, gR_sI, gR_sL, oneI, eq_false ka]
            · rw [if_neg (fun z => wo ⟨z.1.1, z.2.1⟩), if_neg (fun z => wo ⟨z.1.1, z.2.1⟩)]
              refine okc_o (τ := σ1) ?_ (spj_f (by decide) (sfq_r _ _ _))
              by_cases wd : widJ w
              · have od : ¬ isOrd (fC w) := fun z => wo ⟨wd, z⟩
                rw [b2_yes wd, b2_no od]
                simp only [e262_296, Option.getD_some, Option.bind_some, Option.toList_some, Option.toList_none, List.cons_append, List.nil_append, and_self, and_true, true_and, false_and, and_false, ite_self, not_true_eq_false, not_false_eq_true, reduceIte, Nat.reduceEqDiff, ab_I, ab_L, ab_R, ao_I, ao_L, ao_R, gL_sL, gI_sI, gR_sR, gI_sL, gI_sR, gL_sI, gL_sR, gR_sI, gR_sL, oneI]
              · rw [b2_no wd]
                simp only [e262_296, Option.getD_some, Option.bind_some, Option.toList_some, Option.toList_none, List.cons_append, List.nil_append, and_self, and_true, true_and, false_and, and_false, ite_self, not_true_eq_false, not_false_eq_true, reduceIte, Nat.reduceEqDiff, ab_I, ab_L, ab_R, ao_I, ao_L, ao_R, gL_sL, gI_sI, gR_sR, gI_sL, gI_sR, gL_sI, gL_sR, gR_sI, gR_sL]
end CGO
