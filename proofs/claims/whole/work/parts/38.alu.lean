/-! ===== the reference's judge: ALU ===== -/
theorem wid_l {w : B64} (h : fL w = 7) : @b2 (wid w) inferInstance = 1 := b2_yes h
theorem wid_n {w : B64} (h : ¬ fL w = 7) : @b2 (wid w) inferInstance = 0 := b2_no h
theorem m8r (w : B64) : (iAnd (fOp w) 8 = 0) = ¬ rgt w := by
  rw [m8]
  unfold rgt
  exact propext (by omega)
theorem can_mb {v : VL} : ¬ isMb v ↔ ¬ vk v = 6 ∧ ¬ vk v = 10 := by
  unfold isMb
  omega
section ALU
variable {w : B64} {S : ST} {E : EV} {t : Int} {σ σy : MS} {d y : Nat}
/-- what holds when both sides stand somewhere -/
def aH (S : ST) (E : EV) (w : B64) (t : Int) (σ σy : MS) (d y : Nat) : Prop := (J0 σ S ∧ okS E t S ∧ okAlu w ∧ (fL w = 4 ∨ fL w = 7)) ∧ (gI σ 80 90 = 0 ∧ gI σ 80 85 = t ∧ t < 1000000) ∧ (d = 26 * (sF S - 1) + dR w ∧ dR w ≤ 9) ∧ (sqc σy σ ∧ aV σy d = (rgV S (dR w)) ∧ aV σy y = (rgtV S w)) ∧ (y < 104 ∨ y = 32657 ∨ y = 32663) ∧ (okV E 3 t (rgV S (dR w)) ∧ (0 ≤ vk (rgtV S w) ∧ vk (rgtV S w) ≤ 10 ∧ (mvs (rgtV S w) → -4096 ≤ vo (rgtV S w) ∧ vo (rgtV S w) ≤ 4096)))
theorem aH_ok (h : aH S E w t σ σy d y) {v : VL} {t' : Int} {τ : MS} (hq : sqc τ (wrV (sI σy 80 85 t') d v)) : jpo σ τ 0 (wV S (dR w) v) (gI σ 80 88) (gI σ 80 89) t' := by
  obtain ⟨⟨h1, h2, h3, h4⟩, ⟨h5, h6, h7⟩, ⟨h8, h9⟩, ⟨h10, h11, h12⟩, h13, h14⟩ := h
  have hF := h2.1
  refine jpo_w h5 h1 hF.2 (k := d) (by omega) ?_ (sqc_t hq (sqc_wV (sqc_sI h10)))
  rw [h8]
  rfl
theorem aH_e (h : aH S E w t σ σy d y) : sI σy 80 85 t = σy := by
  obtain ⟨-, ⟨-, h6, -⟩, -, ⟨h10, -, -⟩, -, -⟩ := h
  rw [← h6, ← sqc_I h10 (by omega) (by omega)]
  exact sI_eta _ _ _
theorem aH_ok0 (h : aH S E w t σ σy d y) {v : VL} {τ : MS} (hq : sqc τ (wrV σy d v)) : jpo σ τ 0 (wV S (dR w) v) (gI σ 80 88) (gI σ 80 89) t := by
  refine aH_ok h ?_
  rw [aH_e h]
  exact hq
theorem aH_no (h : aH S E w t σ σy d y) {f : Int} {v : VL} {t' : Int} {τ : MS} (hf : ¬ f = 0) (hq : sqc τ (flt σy f)) : jpo σ τ f (wV S (dR w) v) (gI σ 80 88) (gI σ 80 89) t' := by
  obtain ⟨-, ⟨h5, -, -⟩, -, ⟨h10, -, -⟩, -, -⟩ := h
  exact jpo_f hf h5 (sqc_t hq (sqc_flt h10))
theorem aH_0 (h : aH S E w t σ σy d y) : gI σy 80 90 = 0 := by
  obtain ⟨-, ⟨h5, -, -⟩, -, ⟨h10, -, -⟩, -, -⟩ := h
  rw [sqc_I h10 (by omega) (by omega), h5]
theorem aH_d (h : aH S E w t σ σy d y) : inB (d : Int) ∧ d < 104 := by
  obtain ⟨⟨h1, h2, h3, h4⟩, ⟨h5, h6, h7⟩, ⟨h8, h9⟩, ⟨h10, h11, h12⟩, h13, h14⟩ := h
  have hF := h2.1
  exact ⟨⟨by omega, by omega⟩, by omega⟩
theorem aH_y (h : aH S E w t σ σy d y) : inB (y : Int) := by
  obtain ⟨⟨h1, h2, h3, h4⟩, ⟨h5, h6, h7⟩, ⟨h8, h9⟩, ⟨h10, h11, h12⟩, h13, h14⟩ := h
  exact ⟨by omega, by omega⟩
/-- both sides are there: a move -/
theorem L499a (h : aH S E w t σ σy d y) (c : fC w = 176) (hk : ¬ vk (rgtV S w) = 0) : okc (RR (lkB tb499) (B499_157, [some (mR (some 80)), some (mL w), none, some (mI (fOp w)), some (mI (fC w)), some (mI (b2 (wid w))), some (mI (b2 (rgt w))), some (mI (fO w)), some (mI (d : Int)), some (mI (y : Int)), none], [], σy)) none (fun τ => jpo σ τ (aluV S w t).1 (wV S (dR w) (aluV S w t).2.1) (gI σ 80 88) (gI σ 80 89) (aluV S w t).2.2) := by
  have hd := aH_d h
  have hy := aH_y h
  have h0 := aH_0 h
  have h' := h
  obtain ⟨⟨h1, h2, h3, h4⟩, ⟨h5, h6, h7⟩, ⟨h8, h9⟩, ⟨h10, h11, h12⟩, h13, h14⟩ := h'
  have un : aluV S w t = ((movV w (rgtV S w)).1, (movV w (rgtV S w)).2, t) := by
    unfold aluV
    rw [if_neg (by omega), if_neg (fun q => q.1 c), if_neg hk, if_pos c]
  have hO : fO w = 0 ∨ fO w = 8 ∨ fO w = 16 ∨ fO w = 32 := by
    have := h3.2
    rw [if_neg (by omega), if_neg (by omega)] at this
    rcases this.2.1 with q | q | q
    · exact Or.inl q
    · have := q.1
      unfold isQuo at this
      omega
    · rcases q.2 with q | q | q
      · exact Or.inr (Or.inl q)
      · exact Or.inr (Or.inr (Or.inl q))
      · exact Or.inr (Or.inr (Or.inr q.2))
  have wb : @b2 (wid w) inferInstance = 0 ∨ @b2 (wid w) inferInstance = 1 := by
    by_cases q : wid w
    · exact Or.inr (b2_yes q)
    · exact Or.inl (b2_no q)
  have ky : vk (aV σy (y : Int).toNat) = vk (rgtV S w) := by rw [Int.toNat_natCast, h12]
  have t := T501 (σ := σy) (d := (d : Int)) (y := (y : Int)) (o := fO w) hd.1 hy (by omega) (by omega) wb h0 hO (by rw [ky]; omega)
  simp only [e499_157, Option.getD_some, Option.bind_some, Option.toList_some, Option.toList_none, List.cons_append, List.nil_append, and_self, and_true, true_and, false_and, and_false, ite_self, not_true_eq_false, not_false_eq_true, reduceIte, Nat.reduceEqDiff, ab_I, ab_L, ab_R, ao_I, ao_L, ao_R, gL_sL, gI_sI, gR_sR, gI_sL, gI_sR, gL_sI, gL_sR, gR_sI, gR_sL, h0, c, Int.reduceEq]
  refine okc_b t fun τ q => ?_
  simp only [Option.toList_none, List.nil_append, e499_185]
  refine okc_s ?_
  simp only [Int.toNat_natCast, h12, b2_1'] at q
  rw [un]
  unfold movV
  by_cases a : wid w ∧ fO w = 0
  · rw [if_pos a] at q ⊢
    exact aH_ok0 h (by rw [q]; exact sqc_r _)
  · rw [if_neg a] at q ⊢
    by_cases b : wntN (rgtV S w) (rgtV S w) = 0
    · rw [if_neg (not_not_intro b)] at q ⊢
      by_cases e : fO w = 0
      · rw [if_pos e] at q ⊢
        exact aH_ok0 h q
      · rw [if_neg e] at q ⊢
        by_cases g : wid w
        · rw [if_pos g] at q ⊢
          exact aH_ok0 h q
        · rw [if_neg g] at q ⊢
          exact aH_ok0 h q
    · rw [if_pos b] at q ⊢
      exact aH_no h b (by rw [q]; exact sqc_r _)
/-- less it -/
theorem L499b (h : aH S E w t σ σy d y) (c : fC w = 128) (hkd : ¬ vk (rgV S (dR w)) = 0) (hk : ¬ vk (rgtV S w) = 0) : okc (RR (lkB tb499) (B499_157, [some (mR (some 80)), some (mL w), none, some (mI (fOp w)), some (mI (fC w)), some (mI (b2 (wid w))), some (mI (b2 (rgt w))), some (mI (fO w)), some (mI (d : Int)), some (mI (y : Int)), none], [], σy)) none (fun τ => jpo σ τ (aluV S w t).1 (wV S (dR w) (aluV S w t).2.1) (gI σ 80 88) (gI σ 80 89) (aluV S w t).2.2) := by
  have hd := aH_d h
  have hy := aH_y h
  have h0 := aH_0 h
  have h' := h
  obtain ⟨⟨h1, h2, h3, h4⟩, ⟨h5, h6, h7⟩, ⟨h8, h9⟩, ⟨h10, h11, h12⟩, h13, h14⟩ := h'
  have un : aluV S w t = if ¬ wntN (rgV S (dR w)) (rgV S (dR w)) = 0 then (wntN (rgV S (dR w)) (rgV S (dR w)), unsV, t) else if wid w then (0, numV (negN (vn (rgV S (dR w)))), t) else (0, numV (cutT (negN (cutT (vn (rgV S (dR w)))))), t) := by
    unfold aluV
    rw [if_neg (by omega), if_neg (fun q => hkd q.2), if_neg hk, if_neg (by omega), if_pos c]
  have b1 : inB 32657 := by decide
  have b2x : inB 32659 := by decide
  have n1 : ¬ d = (32657 : Int).toNat := by have := hd.2; omega
  have n2 : ¬ (32657 : Int).toNat = d := by have := hd.2; omega
  have n3 : ¬ (32657 : Int).toNat = (32659 : Int).toNat := by decide
  have n4 : ¬ d = (32659 : Int).toNat := by have := hd.2; omega
  generalize hρ : wrV σy (32657 : Int).toNat (numV (cstN (BitVec.ofNat 64 0))) = ρ
  have r1 : sqc ρ σy := by rw [← hρ]; exact sqc_w (by decide)
  have r2 : aV ρ d = (rgV S (dR w)) := by rw [← hρ, aV_ne n1, h11]
  have r3 : aV ρ (32657 : Int).toNat = numV (cstN 0#64) := by rw [← hρ, aV_same]
  have s : RR (lkB tb499) (B499_157, [some (mR (some 80)), some (mL w), none, some (mI (fOp w)), some (mI (fC w)), some (mI (b2 (wid w))), some (mI (b2 (rgt w))), some (mI (fO w)), some (mI (d : Int)), some (mI (y : Int)), none], [], σy) = RR (lkB tb499) (B499_210, [some (mR (some 80)), some (mL w), none, some (mI (fOp w)), some (mI (fC w)), some (mI (b2 (wid w))), some (mI (b2 (rgt w))), some (mI (fO w)), some (mI (d : Int)), some (mI (y : Int)), none], [], flt ρ (wntN (rgV S (dR w)) (rgV S (dR w)))) := by
    simp only [e499_157, e499_202, Option.getD_some, Option.bind_some, Option.toList_some, Option.toList_none, List.cons_append, List.nil_append, and_self, and_true, true_and, false_and, and_false, ite_self, not_true_eq_false, not_false_eq_true, reduceIte, Nat.reduceEqDiff, ab_I, ab_L, ab_R, ao_I, ao_L, ao_R, gL_sL, gI_sI, gR_sR, gI_sL, gI_sR, gL_sI, gL_sR, gR_sI, gR_sL, h0, c, Int.reduceEq, T433 b1.1 b1.2, hρ, T497 hd.1 hd.1, Int.toNat_natCast, r2]
  rw [s, un]
  by_cases f : wntN (rgV S (dR w)) (rgV S (dR w)) = 0
  · rw [f, flt_0, if_neg (not_not_intro rfl)]
    have g0 : gI ρ 80 90 = 0 := (sqc_I r1 (by omega) (by omega)).trans h0
    by_cases wd : wid w
    · rw [if_pos wd, wid_l wd]
      simp only [e499_210, e499_233, e499_272, Option.getD_some, Option.bind_some, Option.toList_some, Option.toList_none, List.cons_append, List.nil_append, and_self, and_true, true_and, false_and, and_false, ite_self, not_true_eq_false, not_false_eq_true, reduceIte, Nat.reduceEqDiff, ab_I, ab_L, ab_R, ao_I, ao_L, ao_R, gL_sL, gI_sI, gR_sR, gI_sL, gI_sR, gL_sI, gL_sR, gR_sI, gR_sL, g0, oneI, T449 hd.1 b1 hd.1, Int.toNat_natCast, r2, r3]
      exact okc_s (aH_ok0 h (sqc_wV r1))
    · rw [if_neg wd, wid_n wd]
      simp only [e499_210, e499_236, e499_252, e499_264, e499_272, Option.getD_some, Option.bind_some, Option.toList_some, Option.toList_none, List.cons_append, List.nil_append, and_self, and_true, true_and, false_and, and_false, ite_self, not_true_eq_false, not_false_eq_true, reduceIte, Nat.reduceEqDiff, ab_I, ab_L, ab_R, ao_I, ao_L, ao_R, gL_sL, gI_sI, gR_sR, gI_sL, gI_sR, gL_sI, gL_sR, gR_sI, gR_sL, g0, T454 b2x hd.1, T449 hd.1 b1 b2x, T454 hd.1 hd.1, Int.toNat_natCast, r2, aV_same, aV_ne n3, r3, wrV_same]
      exact okc_s (aH_ok0 h (sqc_wV (sqc_t (sqc_w (by decide)) r1)))
  · have g0 : ¬ gI (flt ρ (wntN (rgV S (dR w)) (rgV S (dR w)))) 80 90 = 0 := by
      rw [fl_g, (sqc_I r1 (by omega) (by omega)).trans h0, fst0]
      exact f
    rw [if_pos f]
    simp only [e499_210, e499_236, e499_272, Option.getD_some, Option.bind_some, Option.toList_some, Option.toList_none, List.cons_append, List.nil_append, and_self, and_true, true_and, false_and, and_false, ite_self, not_true_eq_false, not_false_eq_true, reduceIte, Nat.reduceEqDiff, ab_I, ab_L, ab_R, ao_I, ao_L, ao_R, gL_sL, gI_sI, gR_sR, gI_sL, gI_sR, gL_sI, gL_sR, gR_sI, gR_sL, g0]
    exact okc_s (aH_no h f (sqc_flt r1))
/-- numbers alone -/
theorem L499n (h : aH S E w t σ σy d y) (c1 : ¬ fC w = 176) (c2 : ¬ fC w = 128) (c3 : ¬ fC w = 208) (hv : aluV S w t = if ¬ wntN (rgV S (dR w)) (rgtV S w) = 0 then (wntN (rgV S (dR w)) (rgtV S w), unsV, t) else if wid w then (0, numV (opN (fC w) (fO w) (vn (rgV S (dR w))) (vn (rgtV S w))), t) else (0, numV (opW (fC w) (fO w) (vn (rgV S (dR w))) (vn (rgtV S w))), t)) (x10 : Int) : okc (RR (lkB tb499) (B499_415, [some (mR (some 80)), some (mL w), none, some (mI (fOp w)), some (mI (fC w)), some (mI (b2 (wid w))), some (mI (b2 (rgt w))), some (mI (fO w)), some (mI (d : Int)), some (mI (y : Int)), some (mI x10)], [], σy)) none (fun τ => jpo σ τ (aluV S w t).1 (wV S (dR w) (aluV S w t).2.1) (gI σ 80 88) (gI σ 80 89) (aluV S w t).2.2) := by
  have hd := aH_d h
  have hy := aH_y h
  have h0 := aH_0 h
  have h' := h
  obtain ⟨⟨h1, h2, h3, h4⟩, ⟨h5, h6, h7⟩, ⟨h8, h9⟩, ⟨h10, h11, h12⟩, h13, h14⟩ := h'
  have hO : okO (fC w) (fO w) := by
    have r := fld_rng w
    have q := h3.2
    rw [if_neg c3, if_neg c2] at q
    have q0 := h3.1.2
    refine ⟨?_, fun z => ?_⟩
    · have e : fC w = fOp w / 16 * 16 := rfl
      have e2 : 0 ≤ fOp w ∧ fOp w < 256 := r.1
      unfold isCode
      omega
    · rcases q.2.1 with q | q | q
      · exact Or.inl q
      · exact Or.inr q.2
      · exfalso; omega
  rw [hv]
  have s : RR (lkB tb499) (B499_415, [some (mR (some 80)), some (mL w), none, some (mI (fOp w)), some (mI (fC w)), some (mI (b2 (wid w))), some (mI (b2 (rgt w))), some (mI (fO w)), some (mI (d : Int)), some (mI (y : Int)), some (mI x10)], [], σy) = RR (lkB tb499) (B499_423, [some (mR (some 80)), some (mL w), none, some (mI (fOp w)), some (mI (fC w)), some (mI (b2 (wid w))), some (mI (b2 (rgt w))), some (mI (fO w)), some (mI (d : Int)), some (mI (y : Int)), some (mI x10)], [], flt σy (wntN (rgV S (dR w)) (rgtV S w))) := by
    simp only [e499_415, Option.getD_some, Option.bind_some, Option.toList_some, Option.toList_none, List.cons_append, List.nil_append, and_self, and_true, true_and, false_and, and_false, ite_self, not_true_eq_false, not_false_eq_true, reduceIte, Nat.reduceEqDiff, ab_I, ab_L, ab_R, ao_I, ao_L, ao_R, gL_sL, gI_sI, gR_sR, gI_sL, gI_sR, gL_sI, gL_sR, gR_sI, gR_sL, T497 hd.1 hy, Int.toNat_natCast, h11, h12]
  rw [s]
  by_cases f : wntN (rgV S (dR w)) (rgtV S w) = 0
  · rw [f, flt_0, if_neg (not_not_intro rfl)]
    by_cases wd : wid w
    · rw [if_pos wd, wid_l wd]
      simp only [e499_423, e499_449, e499_473, Option.getD_some, Option.bind_some, Option.toList_some, Option.toList_none, List.cons_append, List.nil_append, and_self, and_true, true_and, false_and, and_false, ite_self, not_true_eq_false, not_false_eq_true, reduceIte, Nat.reduceEqDiff, ab_I, ab_L, ab_R, ao_I, ao_L, ao_R, gL_sL, gI_sI, gR_sR, gI_sL, gI_sR, gL_sI, gL_sR, gR_sI, gR_sL, h0, oneI, T452 hO hd.1 hd.1 hy, Int.toNat_natCast, h11, h12]
      exact okc_s (aH_ok0 h (sqc_r _))
    · rw [if_neg wd, wid_n wd]
      obtain ⟨p, q, e⟩ := T455 (σ := σy) hO hd.1 hd.1 hy (by omega) ⟨by omega, by omega⟩
      simp only [Int.toNat_natCast, h11, h12] at e
      simp only [e499_423, e499_452, e499_473, Option.getD_some, Option.bind_some, Option.toList_some, Option.toList_none, List.cons_append, List.nil_append, and_self, and_true, true_and, false_and, and_false, ite_self, not_true_eq_false, not_false_eq_true, reduceIte, Nat.reduceEqDiff, ab_I, ab_L, ab_R, ao_I, ao_L, ao_R, gL_sL, gI_sI, gR_sR, gI_sL, gI_sR, gL_sI, gL_sR, gR_sI, gR_sL, h0, e]
      exact okc_s (aH_ok0 h (sqc_wV (sqc_t (sqc_w (by omega)) (sqc_w (by omega)))))
  · have g0 : ¬ gI (flt σy (wntN (rgV S (dR w)) (rgtV S w))) 80 90 = 0 := by
      rw [fl_g, h0, fst0]
      exact f
    rw [if_pos f]
    simp only [e499_423, e499_452, e499_473, Option.getD_some, Option.bind_some, Option.toList_some, Option.toList_none, List.cons_append, List.nil_append, and_self, and_true, true_and, false_and, and_false, ite_self, not_true_eq_false, not_false_eq_true, reduceIte, Nat.reduceEqDiff, ab_I, ab_L, ab_R, ao_I, ao_L, ao_R, gL_sL, gI_sI, gR_sR, gI_sL, gI_sR, gL_sI, gL_sR, gR_sI, gR_sL, g0]
    exact okc_s (aH_no h f (sqc_r _))
set_option maxHeartbeats 1000000 in
theorem L499c (h : aH S E w t σ σy d y) (c1 : ¬ fC w = 176) (c2 : ¬ fC w = 128) (c3 : ¬ fC w = 208) (hkd : ¬ vk (rgV S (dR w)) = 0) (hk : ¬ vk (rgtV S w) = 0) : okc (RR (lkB tb499) (B499_157, [some (mR (some 80)), some (mL w), none, some (mI (fOp w)), some (mI (fC w)), some (mI (b2 (wid w))), some (mI (b2 (rgt w))), some (mI (fO w)), some (mI (d : Int)), some (mI (y : Int)), none], [], σy)) none (fun τ => jpo σ τ (aluV S w t).1 (wV S (dR w) (aluV S w t).2.1) (gI σ 80 88) (gI σ 80 89) (aluV S w t).2.2) := by
  have hd := aH_d h
  have hy := aH_y h
  have h0 := aH_0 h
  have h' := h
  obtain ⟨⟨h1, h2, h3, h4⟩, ⟨h5, h6, h7⟩, ⟨h8, h9⟩, ⟨h10, h11, h12⟩, h13, h14, h15, h16, h17⟩ := h'
  have un : aluV S w t = if (wid w ∧ ¬ (isMb (rgV S (dR w)) ∨ isMb (rgtV S w))) ∧ (fC w = 0 ∨ fC w = 16) ∧ mvs (rgV S (dR w)) ∧ vk (rgtV S w) = 1 then shfV (rgV S (dR w)) (vn (rgtV S w)) (fC w) t
      else if (wid w ∧ ¬ (isMb (rgV S (dR w)) ∨ isMb (rgtV S w))) ∧ fC w = 0 ∧ vk (rgV S (dR w)) = 1 ∧ mvs (rgtV S w) then shfV (rgtV S w) (vn (rgV S (dR w))) (fC w) t
      else if ¬ wntN (rgV S (dR w)) (rgtV S w) = 0 then (wntN (rgV S (dR w)) (rgtV S w), unsV, t) else if wid w then (0, numV (opN (fC w) (fO w) (vn (rgV S (dR w))) (vn (rgtV S w))), t) else (0, numV (opW (fC w) (fO w) (vn (rgV S (dR w))) (vn (rgtV S w))), t) := by
    unfold aluV
    rw [if_neg c3, if_neg (fun q => hkd q.2), if_neg hk, if_neg c1, if_neg c2]
  have ht85 : gI σy 80 85 = t := (sqc_I h10 (by omega) (by omega)).trans h6
  have ht0 : 0 ≤ t := h2.2.2.2.2.2.2
  have nmd : mvs (rgV S (dR w)) → -4096 ≤ vo (rgV S (dR w)) ∧ vo (rgV S (dR w)) ≤ 4096 := h14.2.1
  have kd : 0 ≤ vk (rgV S (dR w)) ∧ vk (rgV S (dR w)) ≤ 10 := h14.1
  have k118d : gI σy 118 d = vk (rgV S (dR w)) := by rw [q118, h11]
  have k118y : gI σy 118 y = vk (rgtV S w) := by rw [q118, h12]
  have s296 : RR (lkB tb499) (B499_157, [some (mR (some 80)), some (mL w), none, some (mI (fOp w)), some (mI (fC w)), some (mI (b2 (wid w))), some (mI (b2 (rgt w))), some (mI (fO w)), some (mI (d : Int)), some (mI (y : Int)), none], [], σy) = RR (lkB tb499) (B499_296, [some (mR (some 80)), some (mL w), none, some (mI (fOp w)), some (mI (fC w)), some (mI (b2 (wid w))), some (mI (b2 (rgt w))), some (mI (fO w)), some (mI (d : Int)), some (mI (y : Int)), none], [mI (b2 (isMb (rgV S (dR w)) ∨ isMb (rgtV S w)))], σy) := by
    by_cases a : isMb (rgV S (dR w))
    · rw [b2_yes (p := isMb (rgV S (dR w)) ∨ isMb (rgtV S w)) (Or.inl a)]
      simp only [e499_157, e499_279, e499_291, Option.getD_some, Option.bind_some, Option.toList_some, Option.toList_none, List.cons_append, List.nil_append, and_self, and_true, true_and, false_and, and_false, ite_self, not_true_eq_false, not_false_eq_true, reduceIte, Nat.reduceEqDiff, ab_I, ab_L, ab_R, ao_I, ao_L, ao_R, gL_sL, gI_sI, gR_sR, gI_sL, gI_sR, gL_sI, gL_sR, gR_sI, gR_sL, h0, c1, c2, T493 hd.1, Int.toNat_natCast, h11, b2_n', a]
    · by_cases b : isMb (rgtV S w)
      · rw [b2_yes (p := isMb (rgV S (dR w)) ∨ isMb (rgtV S w)) (Or.inr b)]
        simp only [e499_157, e499_279, e499_288, e499_291, Option.getD_some, Option.bind_some, Option.toList_some, Option.toList_none, List.cons_append, List.nil_append, and_self, and_true, true_and, false_and, and_false, ite_self, not_true_eq_false, not_false_eq_true, reduceIte, Nat.reduceEqDiff, ab_I, ab_L, ab_R, ao_I, ao_L, ao_R, gL_sL, gI_sI, gR_sR, gI_sL, gI_sR, gL_sI, gL_sR, gR_sI, gR_sL, h0, c1, c2, T493 hd.1, T493 hy, Int.toNat_natCast, h11, h12, b2_n', b2_0', a, b]
      · rw [b2_no (p := isMb (rgV S (dR w)) ∨ isMb (rgtV S w)) (fun q => q.elim a b)]
        simp only [e499_157, e499_279, e499_288, e499_291, Option.getD_some, Option.bind_some, Option.toList_some, Option.toList_none, List.cons_append, List.nil_append, and_self, and_true, true_and, false_and, and_false, ite_self, not_true_eq_false, not_false_eq_true, reduceIte, Nat.reduceEqDiff, ab_I, ab_L, ab_R, ao_I, ao_L, ao_R, gL_sL, gI_sI, gR_sR, gI_sL, gI_sR, gL_sI, gL_sR, gR_sI, gR_sL, h0, c1, c2, T493 hd.1, T493 hy, Int.toNat_natCast, h11, h12, b2_n', b2_0', a, b]
  rw [s296]
  by_cases A : (wid w ∧ ¬ (isMb (rgV S (dR w)) ∨ isMb (rgtV S w))) ∧ (fC w = 0 ∨ fC w = 16) ∧ mvs (rgV S (dR w)) ∧ vk (rgtV S w) = 1
  · obtain ⟨⟨a1, a2⟩, a3, a4, a5⟩ := A
    rw [if_pos ⟨⟨a1, a2⟩, a3, a4, a5⟩] at un
    have s320 : RR (lkB tb499) (B499_296, [some (mR (some 80)), some (mL w), none, some (mI (fOp w)), some (mI (fC w)), some (mI (b2 (wid w))), some (mI (b2 (rgt w))), some (mI (fO w)), some (mI (d : Int)), some (mI (y : Int)), none], [mI (b2 (isMb (rgV S (dR w)) ∨ isMb (rgtV S w)))], σy) = RR (lkB tb499) (B499_320, [some (mR (some 80)), some (mL w), none, some (mI (fOp w)), some (mI (fC w)), some (mI (b2 (wid w))), some (mI (b2 (rgt w))), some (mI (fO w)), some (mI (d : Int)), some (mI (y : Int)), some (mI (b2 (isMb (rgV S (dR w)) ∨ isMb (rgtV S w))))], [], σy) := by
      rcases a3 with a3 | a3
      · simp only [e499_296, Option.getD_some, Option.bind_some, Option.toList_some, Option.toList_none, List.cons_append, List.nil_append, and_self, and_true, true_and, false_and, and_false, ite_self, not_true_eq_false, not_false_eq_true, reduceIte, Nat.reduceEqDiff, ab_I, ab_L, ab_R, ao_I, ao_L, ao_R, gL_sL, gI_sI, gR_sR, gI_sL, gI_sR, gL_sI, gL_sR, gR_sI, gR_sL, b2_0', b2_n', eq_true a1, a2, a3]
      · simp only [e499_296, Option.getD_some, Option.bind_some, Option.toList_some, Option.toList_none, List.cons_append, List.nil_append, and_self, and_true, true_and, false_and, and_false, ite_self, not_true_eq_false, not_false_eq_true, reduceIte, Nat.reduceEqDiff, ab_I, ab_L, ab_R, ao_I, ao_L, ao_R, gL_sL, gI_sI, gR_sR, gI_sL, gI_sR, gL_sI, gL_sR, gR_sI, gR_sL, b2_0', b2_n', eq_true a1, a2, a3, Int.reduceEq]
    have t2 := T502 (σ := σy) (d := (d : Int)) (x := (d : Int)) (n := (y : Int)) (c := fC w) hd.1 hd.1 hy (by omega) (by omega) (by omega) a3 h0 (by rw [Int.toNat_natCast, h11]; exact a4) (by rw [Int.toNat_natCast, h11]; exact nmd a4) (by rw [Int.toNat_natCast, h12]; omega) (by omega)
    rw [s320]
    simp only [e499_320, e499_326, Option.getD_some, Option.bind_some, Option.toList_some, Option.toList_none, List.cons_append, List.nil_append, and_self, and_true, true_and, false_and, and_false, ite_self, not_true_eq_false, not_false_eq_true, reduceIte, Nat.reduceEqDiff, ab_I, ab_L, ab_R, ao_I, ao_L, ao_R, gL_sL, gI_sI, gR_sR, gI_sL, gI_sR, gL_sI, gL_sR, gR_sI, gR_sL, T498 hd.1, Int.toNat_natCast, h11, b2_0', a4, g_118, hy.1, hy.2, k118y, a5]
    refine okc_b t2 fun τ q => ?_
    simp only [Option.toList_none, List.nil_append, e499_352, e499_473]
    refine okc_s ?_
    simp only [Int.toNat_natCast, h11, h12, ht85] at q
    rw [un]
    by_cases f : (shfV (rgV S (dR w)) (vn (rgtV S w)) (fC w) t).1 = 0
    · rw [if_pos f] at q
      rw [f]
      exact aH_ok h q
    · rw [if_neg f] at q
      exact aH_no h f q
  · rw [if_neg A] at un
    have s355 : RR (lkB tb499) (B499_296, [some (mR (some 80)), some (mL w), none, some (mI (fOp w)), some (mI (fC w)), some (mI (b2 (wid w))), some (mI (b2 (rgt w))), some (mI (fO w)), some (mI (d : Int)), some (mI (y : Int)), none], [mI (b2 (isMb (rgV S (dR w)) ∨ isMb (rgtV S w)))], σy) = RR (lkB tb499) (B499_355, [some (mR (some 80)), some (mL w), none, some (mI (fOp w)), some (mI (fC w)), some (mI (b2 (wid w))), some (mI (b2 (rgt w))), some (mI (fO w)), some (mI (d : Int)), some (mI (y : Int)), some (mI (b2 (isMb (rgV S (dR w)) ∨ isMb (rgtV S w))))], [], σy) := by
      by_cases a1 : wid w
      · by_cases a2 : isMb (rgV S (dR w)) ∨ isMb (rgtV S w)
        · simp only [e499_296, Option.getD_some, Option.bind_some, Option.toList_some, Option.toList_none, List.cons_append, List.nil_append, and_self, and_true, true_and, false_and, and_false, ite_self, not_true_eq_false, not_false_eq_true, reduceIte, Nat.reduceEqDiff, ab_I, ab_L, ab_R, ao_I, ao_L, ao_R, gL_sL, gI_sI, gR_sR, gI_sL, gI_sR, gL_sI, gL_sR, gR_sI, gR_sL, b2_0', b2_n', eq_true a1, a2]
        · by_cases a3 : fC w = 0 ∨ fC w = 16
          · have s320 : RR (lkB tb499) (B499_296, [some (mR (some 80)), some (mL w), none, some (mI (fOp w)), some (mI (fC w)), some (mI (b2 (wid w))), some (mI (b2 (rgt w))), some (mI (fO w)), some (mI (d : Int)), some (mI (y : Int)), none], [mI (b2 (isMb (rgV S (dR w)) ∨ isMb (rgtV S w)))], σy) = RR (lkB tb499) (B499_320, [some (mR (some 80)), some (mL w), none, some (mI (fOp w)), some (mI (fC w)), some (mI (b2 (wid w))), some (mI (b2 (rgt w))), some (mI (fO w)), some (mI (d : Int)), some (mI (y : Int)), some (mI (b2 (isMb (rgV S (dR w)) ∨ isMb (rgtV S w))))], [], σy) := by
              rcases a3 with a3 | a3
              · simp only [e499_296, Option.getD_some, Option.bind_some, Option.toList_some, Option.toList_none, List.cons_append, List.nil_append, and_self, and_true, true_and, false_and, and_false, ite_self, not_true_eq_false, not_false_eq_true, reduceIte, Nat.reduceEqDiff, ab_I, ab_L, ab_R, ao_I, ao_L, ao_R, gL_sL, gI_sI, gR_sR, gI_sL, gI_sR, gL_sI, gL_sR, gR_sI, gR_sL, b2_0', b2_n', eq_true a1, a2, a3]
              · simp only [e499_296, Option.getD_some, Option.bind_some, Option.toList_some, Option.toList_none, List.cons_append, List.nil_append, and_self, and_true, true_and, false_and, and_false, ite_self, not_true_eq_false, not_false_eq_true, reduceIte, Nat.reduceEqDiff, ab_I, ab_L, ab_R, ao_I, ao_L, ao_R, gL_sL, gI_sI, gR_sR, gI_sL, gI_sR, gL_sI, gL_sR, gR_sI, gR_sL, b2_0', b2_n', eq_true a1, a2, a3, Int.reduceEq]
            rw [s320]
            by_cases a4 : mvs (rgV S (dR w))
            · have a5 : ¬ vk (rgtV S w) = 1 := fun z => A ⟨⟨a1, a2⟩, a3, a4, z⟩
              simp only [e499_320, e499_326, Option.getD_some, Option.bind_some, Option.toList_some, Option.toList_none, List.cons_append, List.nil_append, and_self, and_true, true_and, false_and, and_false, ite_self, not_true_eq_false, not_false_eq_true, reduceIte, Nat.reduceEqDiff, ab_I, ab_L, ab_R, ao_I, ao_L, ao_R, gL_sL, gI_sI, gR_sR, gI_sL, gI_sR, gL_sI, gL_sR, gR_sI, gR_sL, T498 hd.1, Int.toNat_natCast, h11, b2_0', a4, g_118, hy.1, hy.2, k118y, a5]
            · simp only [e499_320, e499_326, Option.getD_some, Option.bind_some, Option.toList_some, Option.toList_none, List.cons_append, List.nil_append, and_self, and_true, true_and, false_and, and_false, ite_self, not_true_eq_false, not_false_eq_true, reduceIte, Nat.reduceEqDiff, ab_I, ab_L, ab_R, ao_I, ao_L, ao_R, gL_sL, gI_sI, gR_sR, gI_sL, gI_sR, gL_sI, gL_sR, gR_sI, gR_sL, T498 hd.1, Int.toNat_natCast, h11, b2_0', a4]
          · have n1 : ¬ fC w = 0 := fun z => a3 (Or.inl z)
            have n2 : ¬ fC w = 16 := fun z => a3 (Or.inr z)
            simp only [e499_296, Option.getD_some, Option.bind_some, Option.toList_some, Option.toList_none, List.cons_append, List.nil_append, and_self, and_true, true_and, false_and, and_false, ite_self, not_true_eq_false, not_false_eq_true, reduceIte, Nat.reduceEqDiff, ab_I, ab_L, ab_R, ao_I, ao_L, ao_R, gL_sL, gI_sI, gR_sR, gI_sL, gI_sR, gL_sI, gL_sR, gR_sI, gR_sL, b2_0', b2_n', eq_true a1, a2, n1, n2]
      · simp only [e499_296, Option.getD_some, Option.bind_some, Option.toList_some, Option.toList_none, List.cons_append, List.nil_append, and_self, and_true, true_and, false_and, and_false, ite_self, not_true_eq_false, not_false_eq_true, reduceIte, Nat.reduceEqDiff, ab_I, ab_L, ab_R, ao_I, ao_L, ao_R, gL_sL, gI_sI, gR_sR, gI_sL, gI_sR, gL_sI, gL_sR, gR_sI, gR_sL, b2_0', b2_n', a1]
    rw [s355]
    by_cases B : (wid w ∧ ¬ (isMb (rgV S (dR w)) ∨ isMb (rgtV S w))) ∧ fC w = 0 ∧ vk (rgV S (dR w)) = 1 ∧ mvs (rgtV S w)
    · obtain ⟨⟨a1, a2⟩, a3, a4, a5⟩ := B
      rw [if_pos ⟨⟨a1, a2⟩, a3, a4, a5⟩] at un
      have bX : inB 32656 := by decide
      have nX : ¬ y = (32656 : Int).toNat := by omega
      generalize hρ : wrV σy (32656 : Int).toNat (rgV S (dR w)) = ρ
      have r1 : sqc ρ σy := by rw [← hρ]; exact sqc_w (by decide)
      have r2 : aV ρ (32656 : Int).toNat = (rgV S (dR w)) := by rw [← hρ, aV_same]
      have r3 : aV ρ y = (rgtV S w) := by rw [← hρ, aV_ne nX, h12]
      have r4 : gI ρ 80 90 = 0 := (sqc_I r1 (by omega) (by omega)).trans h0
      have r5 : gI ρ 80 85 = t := (sqc_I r1 (by omega) (by omega)).trans ht85
      have s399 : RR (lkB tb499) (B499_355, [some (mR (some 80)), some (mL w), none, some (mI (fOp w)), some (mI (fC w)), some (mI (b2 (wid w))), some (mI (b2 (rgt w))), some (mI (fO w)), some (mI (d : Int)), some (mI (y : Int)), some (mI (b2 (isMb (rgV S (dR w)) ∨ isMb (rgtV S w))))], [], σy) = RR (lkB tb499) (B499_399, [some (mR (some 80)), some (mL w), none, some (mI (fOp w)), some (mI (fC w)), some (mI (b2 (wid w))), some (mI (b2 (rgt w))), some (mI (fO w)), some (mI (d : Int)), some (mI (y : Int)), some (mI (b2 (isMb (rgV S (dR w)) ∨ isMb (rgtV S w))))], [], ρ) := by
        simp only [e499_355, e499_387, Option.getD_some, Option.bind_some, Option.toList_some, Option.toList_none, List.cons_append, List.nil_append, and_self, and_true, true_and, false_and, and_false, ite_self, not_true_eq_false, not_false_eq_true, reduceIte, Nat.reduceEqDiff, ab_I, ab_L, ab_R, ao_I, ao_L, ao_R, gL_sL, gI_sI, gR_sR, gI_sL, gI_sR, gL_sI, gL_sR, gR_sI, gR_sL, b2_0', b2_n', eq_true a1, a2, a3, g_118, hd.1.1, hd.1.2, Int.toNat_natCast, k118d, a4, T498 hy, h12, a5]
        rw [T430 hd.1 bX (by rw [Int.toNat_natCast, h11]; omega)]
        simp only [Option.getD_some, Option.bind_some, Option.toList_some, Option.toList_none, List.cons_append, List.nil_append, and_self, and_true, true_and, false_and, and_false, ite_self, not_true_eq_false, not_false_eq_true, reduceIte, Nat.reduceEqDiff, ab_I, ab_L, ab_R, ao_I, ao_L, ao_R, gL_sL, gI_sI, gR_sR, gI_sL, gI_sR, gL_sI, gL_sR, gR_sI, gR_sL, Int.toNat_natCast, h11, hρ]
      have t2 := T502 (σ := ρ) (d := (d : Int)) (x := (y : Int)) (n := 32656) (c := fC w) hd.1 hy bX (by omega) (by omega) (by omega) (Or.inl a3) r4 (by rw [Int.toNat_natCast, r3]; exact a5) (by rw [Int.toNat_natCast, r3]; exact h17 a5) (by rw [r2]; omega) (by omega)
      rw [s399]
      simp only [e499_399, Option.getD_some, Option.bind_some, Option.toList_some, Option.toList_none, List.cons_append, List.nil_append, and_self, and_true, true_and, false_and, and_false, ite_self, not_true_eq_false, not_false_eq_true, reduceIte, Nat.reduceEqDiff, ab_I, ab_L, ab_R, ao_I, ao_L, ao_R, gL_sL, gI_sI, gR_sR, gI_sL, gI_sR, gL_sI, gL_sR, gR_sI, gR_sL]
      refine okc_b t2 fun τ q => ?_
      simp only [Option.toList_none, List.nil_append, e499_412, e499_473]
      refine okc_s ?_
      simp only [Int.toNat_natCast, r2, r3, r5] at q
      rw [un]
      by_cases f : (shfV (rgtV S w) (vn (rgV S (dR w))) (fC w) t).1 = 0
      · rw [if_pos f] at q
        rw [f]
        exact aH_ok h (sqc_t q (sqc_wV (sqc_sI r1)))
      · rw [if_neg f] at q
        exact aH_no h f (sqc_t q (sqc_flt r1))
    · rw [if_neg B] at un
      have s415 : RR (lkB tb499) (B499_355, [some (mR (some 80)), some (mL w), none, some (mI (fOp w)), some (mI (fC w)), some (mI (b2 (wid w))), some (mI (b2 (rgt w))), some (mI (fO w)), some (mI (d : Int)), some (mI (y : Int)), some (mI (b2 (isMb (rgV S (dR w)) ∨ isMb (rgtV S w))))], [], σy) = RR (lkB tb499) (B499_415, [some (mR (some 80)), some (mL w), none, some (mI (fOp w)), some (mI (fC w)), some (mI (b2 (wid w))), some (mI (b2 (rgt w))), some (mI (fO w)), some (mI (d : Int)), some (mI (y : Int)), some (mI (b2 (isMb (rgV S (dR w)) ∨ isMb (rgtV S w))))], [], σy) := by
        by_cases a1 : wid w
        · by_cases a2 : isMb (rgV S (dR w)) ∨ isMb (rgtV S w)
          · simp only [e499_355, Option.getD_some, Option.bind_some, Option.toList_some, Option.toList_none, List.cons_append, List.nil_append, and_self, and_true, true_and, false_and, and_false, ite_self, not_true_eq_false, not_false_eq_true, reduceIte, Nat.reduceEqDiff, ab_I, ab_L, ab_R, ao_I, ao_L, ao_R, gL_sL, gI_sI, gR_sR, gI_sL, gI_sR, gL_sI, gL_sR, gR_sI, gR_sL, b2_0', b2_n', eq_true a1, a2]
          · by_cases a3 : fC w = 0
            · by_cases a4 : vk (rgV S (dR w)) = 1
              · have a5 : ¬ mvs (rgtV S w) := fun z => B ⟨⟨a1, a2⟩, a3, a4, z⟩
                simp only [e499_355, e499_387, Option.getD_some, Option.bind_some, Option.toList_some, Option.toList_none, List.cons_append, List.nil_append, and_self, and_true, true_and, false_and, and_false, ite_self, not_true_eq_false, not_false_eq_true, reduceIte, Nat.reduceEqDiff, ab_I, ab_L, ab_R, ao_I, ao_L, ao_R, gL_sL, gI_sI, gR_sR, gI_sL, gI_sR, gL_sI, gL_sR, gR_sI, gR_sL, b2_0', b2_n', eq_true a1, a2, a3, g_118, hd.1.1, hd.1.2, Int.toNat_natCast, k118d, a4, T498 hy, h12, a5]
              · simp only [e499_355, Option.getD_some, Option.bind_some, Option.toList_some, Option.toList_none, List.cons_append, List.nil_append, and_self, and_true, true_and, false_and, and_false, ite_self, not_true_eq_false, not_false_eq_true, reduceIte, Nat.reduceEqDiff, ab_I, ab_L, ab_R, ao_I, ao_L, ao_R, gL_sL, gI_sI, gR_sR, gI_sL, gI_sR, gL_sI, gL_sR, gR_sI, gR_sL, b2_0', b2_n', eq_true a1, a2, a3, g_118, hd.1.1, hd.1.2, Int.toNat_natCast, k118d, a4]
            · simp only [e499_355, Option.getD_some, Option.bind_some, Option.toList_some, Option.toList_none, List.cons_append, List.nil_append, and_self, and_true, true_and, false_and, and_false, ite_self, not_true_eq_false, not_false_eq_true, reduceIte, Nat.reduceEqDiff, ab_I, ab_L, ab_R, ao_I, ao_L, ao_R, gL_sL, gI_sI, gR_sR, gI_sL, gI_sR, gL_sI, gL_sR, gR_sI, gR_sL, b2_0', b2_n', eq_true a1, a2, a3]
        · simp only [e499_355, Option.getD_some, Option.bind_some, Option.toList_some, Option.toList_none, List.cons_append, List.nil_append, and_self, and_true, true_and, false_and, and_false, ite_self, not_true_eq_false, not_false_eq_true, reduceIte, Nat.reduceEqDiff, ab_I, ab_L, ab_R, ao_I, ao_L, ao_R, gL_sL, gI_sI, gR_sR, gI_sL, gI_sR, gL_sI, gL_sR, gR_sI, gR_sL, b2_0', b2_n', a1]
      rw [s415]
      exact L499n h c1 c2 c3 un _
end ALU
