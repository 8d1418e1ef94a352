/-! ===== the class's FUNCTIONS, ways, what is decided ===== -/
/-- what is behind an instruction: the ways -/
def spj (σ τ : MS) (k j : Nat) (r : JR) : Prop := sfq τ σ k j ∧ (r.1 = 0 → gI τ 40 8 = r.2.2.2 ∧ match r.2.1, r.2.2.1 with
  | some (n, S1), none => CSt τ k S1 ∧ gI τ 40 4 = n ∧ gI τ 40 3 = 0
  | some (n, S1), some (g, S2) => (CSt τ k S1 ∧ gI τ 40 4 = n) ∧ (gI τ 40 3 = 1 ∧ gI τ 40 5 = g ∧ CSt τ j S2) ∧ gI τ j 7 = gI σ k 7 ∧ gR τ j 6 = gR σ k 6
  | none, _ => gI τ 40 4 = -1 ∧ gI τ 40 3 = 0 ∧ gI τ k 3 = gI σ k 3)
section CJMP
variable {τ σ ρ : MS} {k j : Nat} {E : EV} {w : B64} {S S' : ST} {t n g : Int} {c : Int} {x y : N6}
theorem spj_f {f : Int} {a b : WY} {t' : Int} (hf : ¬ f = 0) (q : sfq τ σ k j) : spj σ τ k j (f, a, b, t') := ⟨q, fun z => absurd z hf⟩
theorem spj_1 {f t' : Int} (h3 : gI σ 40 3 = 0) (h : spo σ τ k j f S' n t') : spj σ τ k j (wayJ f n S' t') := by
  unfold wayJ
  by_cases f0 : f = 0
  · rw [if_pos f0]
    obtain ⟨a, b, c, d⟩ := h.2 f0
    exact ⟨h.1, fun _ => ⟨d, a, b, c.trans h3⟩⟩
  · rw [if_neg f0]
    exact spj_f f0 h.1
theorem wayJ_1 {f t' : Int} : (wayJ f n S' t').1 = f := by
  unfold wayJ
  split
  · rename_i h; exact h.symm
  · rfl
theorem T260 (H : SC σ k j E w) (hS : CSt σ k S) (P : PX S E t) (ht : gI σ 40 8 = t) (h4 : gI σ 40 4 = n) (h3 : gI σ 40 3 = 0) (hg : -2147483648 ≤ n + fI w ∧ n + fI w < 2147483648) : okc (MM 260 [mR (some 40)] σ) (some (mI (entJ S (n + fI w) n t).1)) (fun τ => spj σ τ k j (entJ S (n + fI w) n t)) := by
  have F := PX_F P
  have sc := sc_c H
  unfold entJ
  by_cases c4 : sF S = 4
  · rw [if_pos c4]
    refine okc_o (τ := σ) ?_ (spj_f (by decide) (sfq_r _ _ _))
    have e : gI σ k 3 = 4 := by rw [hS.1.1, c4]; rfl
    simp only [M260, e260_0, Option.getD_some, Option.bind_some, Option.toList_some, Option.toList_none, List.cons_append, List.nil_append, and_self, and_true, true_and, false_and, and_false, ite_self, not_true_eq_false, not_false_eq_true, reduceIte, Nat.reduceEqDiff, ab_I, ab_L, ab_R, ao_I, ao_L, ao_R, gL_sL, gI_sI, gR_sR, gI_sL, gI_sR, gL_sI, gL_sR, gR_sI, gR_sL, sc_h H, sc_ao H, e]
  · rw [if_neg c4]
    have e : ¬ gI σ k 3 = 4 := by rw [hS.1.1]; omega
    obtain ⟨τ, t19, q1, q2, q3, q4⟩ := T219 (g := n) (sc_k H) (by omega) hS
    have cs : csq τ σ k := ⟨fun k' s p1 p2 p3 => q2 k' s (fun z => p1 ⟨z.1, Or.inl z.2⟩) p2, q3, q4⟩
    have H1 := SC_q (sfq_s (j := j) cs) H
    have g4 : gI τ 40 4 = n := (q2 _ _ (by omega) (by omega)).trans h4
    have wg := w32_i hg.1 hg.2
    refine okc_o (τ := sI τ 40 4 (n + fI w)) ?_ ⟨sfq_t (sfq_i (by omega)) (sfq_s cs), fun _ => ⟨?_, CSt_i sc q1, ?_, ?_⟩⟩
    · simp only [M260, e260_0, e260_25, e260_37, Option.getD_some, Option.bind_some, Option.toList_some, Option.toList_none, List.cons_append, List.nil_append, and_self, and_true, true_and, false_and, and_false, ite_self, not_true_eq_false, not_false_eq_true, reduceIte, Nat.reduceEqDiff, ab_I, ab_L, ab_R, ao_I, ao_L, ao_R, gL_sL, gI_sI, gR_sR, gI_sL, gI_sR, gL_sI, gL_sR, gR_sI, gR_sL, sc_h H, sc_ao H, e, h4, t19, sc_w H1, T4, g4, wg]
    · rw [gI_sI, if_neg (by omega), q2 _ _ (by omega) (by omega), ht]
    · rw [gI_sI, if_pos ⟨rfl, rfl⟩]
    · rw [gI_sI, if_neg (by omega), q2 _ _ (by omega) (by omega), h3]
theorem T261 (H : SC σ k j E w) (hS : CSt σ k S) (P : PX S E t) (ht : gI σ 40 8 = t) (h3 : gI σ 40 3 = 0) : okc (MM 261 [mR (some 40)] σ) (some (mI (exiJ S t).1)) (fun τ => spj σ τ k j (exiJ S t)) := by
  have F := PX_F P
  have sc := sc_c H
  have t12 : MM 212 [mR (some k), mI 0] σ = some (some (mI ((pR S 0 : Nat) : Int)), σ) := T212r H hS P (show 0 ≤ 10 by decide)
  have t14 := T214r H hS P (show 0 ≤ 10 by decide)
  unfold exiJ
  by_cases z0 : vk (rgV S 0) = 0
  · rw [if_pos z0]
    refine okc_o (τ := σ) ?_ (spj_f (by decide) (sfq_r _ _ _))
    simp only [M261, e261_0, e261_12, e261_15, Option.getD_some, Option.bind_some, Option.toList_some, Option.toList_none, List.cons_append, List.nil_append, and_self, and_true, true_and, false_and, and_false, ite_self, not_true_eq_false, not_false_eq_true, reduceIte, Nat.reduceEqDiff, ab_I, ab_L, ab_R, ao_I, ao_L, ao_R, gL_sL, gI_sI, gR_sR, gI_sL, gI_sR, gL_sI, gL_sR, gR_sI, gR_sL, sc_h H, sc_ao H, t12, t14, z0]
  · rw [if_neg z0]
    by_cases z1 : vk (rgV S 0) = 1
    · rw [if_neg (not_not_intro z1)]
      by_cases f1 : sF S = 1
      · rw [if_pos f1]
        have e : gI σ k 3 ≤ 1 := by rw [hS.1.1, f1]; decide
        have H1 : SC (sI σ 40 4 (-1)) k j E w := SC_q (sfq_i (by omega)) H
        have g4 : gI (sI σ 40 4 (-1)) k 4 = ((sH S).length : Int) := by rw [gI_sI, if_neg (by omega)]; exact hS.1.2
        have q : sfq (sI σ 40 4 (-1)) σ k j := sfq_i (by omega)
        by_cases h0 : sH S = []
        · rw [if_pos h0]
          have le : ((sH S).length : Int) ≤ 0 := by rw [h0]; decide
          refine okc_o (τ := sI σ 40 4 (-1)) ?_ ⟨q, fun _ => ⟨?_, ?_, ?_, ?_⟩⟩
          · have hh := sc_h H1
            have ha := sc_ao H1
            simp only [M261, e261_0, e261_12, e261_15, Option.getD_some, Option.bind_some, Option.toList_some, Option.toList_none, List.cons_append, List.nil_append, and_self, and_true, true_and, false_and, and_false, ite_self, not_true_eq_false, not_false_eq_true, reduceIte, Nat.reduceEqDiff, ab_I, ab_L, ab_R, ao_I, ao_L, ao_R, gL_sL, gI_sI, gR_sR, gI_sL, gI_sR, gL_sI, gL_sR, gR_sI, gR_sL, sc_h H, sc_ao H, t12, t14, z1, oneI, e, hh, ha, g4, le]
          · rw [gI_sI, if_neg (by omega)]; exact ht
          · rw [gI_sI, if_pos ⟨rfl, rfl⟩]
          · rw [gI_sI, if_neg (by omega)]; exact h3
          · rw [gI_sI, if_neg (by omega)]
        · rw [if_neg h0]
          have le : ¬ ((sH S).length : Int) ≤ 0 := by
            have : 0 < (sH S).length := List.length_pos_iff.mpr h0
            omega
          refine okc_o (τ := sI σ 40 4 (-1)) ?_ (spj_f (by decide) q)
          have hh := sc_h H1
          have ha := sc_ao H1
          simp only [M261, e261_0, e261_12, e261_15, Option.getD_some, Option.bind_some, Option.toList_some, Option.toList_none, List.cons_append, List.nil_append, and_self, and_true, true_and, false_and, and_false, ite_self, not_true_eq_false, not_false_eq_true, reduceIte, Nat.reduceEqDiff, ab_I, ab_L, ab_R, ao_I, ao_L, ao_R, gL_sL, gI_sI, gR_sR, gI_sL, gI_sR, gL_sI, gL_sR, gR_sI, gR_sL, sc_h H, sc_ao H, t12, t14, z1, oneI, e, hh, ha, g4, le]
      · rw [if_neg f1]
        have e : ¬ gI σ k 3 ≤ 1 := by rw [hS.1.1]; omega
        obtain ⟨τ, t20, q1, q2, q3, q4⟩ := T220 (sc_k H) (by omega) hS
        have cs : csq τ σ k := ⟨fun k' s p1 p2 p3 => q2 k' s (fun z => p1 ⟨z.1, Or.inl z.2⟩), q3, q4⟩
        refine okc_o (τ := sI τ 40 4 (sB S (sF S - 1))) ?_ ⟨sfq_t (sfq_i (by omega)) (sfq_s cs), fun _ => ⟨?_, CSt_i sc q1, ?_, ?_⟩⟩
        · simp only [M261, e261_0, e261_12, e261_15, e261_49, Option.getD_some, Option.bind_some, Option.toList_some, Option.toList_none, List.cons_append, List.nil_append, and_self, and_true, true_and, false_and, and_false, ite_self, not_true_eq_false, not_false_eq_true, reduceIte, Nat.reduceEqDiff, ab_I, ab_L, ab_R, ao_I, ao_L, ao_R, gL_sL, gI_sI, gR_sR, gI_sL, gI_sR, gL_sI, gL_sR, gR_sI, gR_sL, sc_h H, sc_ao H, t12, t14, z1, oneI, e, t20]
        · rw [gI_sI, if_neg (by omega), q2 _ _ (by omega), ht]
        · rw [gI_sI, if_pos ⟨rfl, rfl⟩]
        · rw [gI_sI, if_neg (by omega), q2 _ _ (by omega), h3]
    · rw [if_pos z1]
      refine okc_o (τ := σ) ?_ (spj_f (by decide) (sfq_r _ _ _))
      simp only [M261, e261_0, e261_12, e261_15, Option.getD_some, Option.bind_some, Option.toList_some, Option.toList_none, List.cons_append, List.nil_append, and_self, and_true, true_and, false_and, and_false, ite_self, not_true_eq_false, not_false_eq_true, reduceIte, Nat.reduceEqDiff, ab_I, ab_L, ab_R, ao_I, ao_L, ao_R, gL_sL, gI_sI, gR_sR, gI_sL, gI_sR, gL_sI, gL_sR, gR_sI, gR_sL, sc_h H, sc_ao H, t12, t14, z0, z1]
/-- both ways are gone -/
def ptP (τ σ : MS) (k j : Nat) (S : ST) : Prop := (sfq τ σ k j ∧ CSt τ k S ∧ CSt τ j S) ∧ (gI τ 40 3 = 1 ∧ gI τ 40 4 = gI σ 40 4 ∧ gI τ 40 5 = gI σ 40 5 ∧ gI τ 40 8 = gI σ 40 8) ∧ (gI τ j 7 = gI σ k 7 ∧ gR τ j 6 = gR σ k 6) ∧ ∀ i s, 41 ≤ i → i ≤ 50 → gL τ i s = gL σ i s
theorem T263 (H : SC σ k j E w) (hS : CSt σ k S) (P : PX S E t) (hl : ak σ 2 (gR σ k 6)) : okc (MM 263 [mR (some 40)] σ) none (fun τ => ptP τ σ k j S) := by
  have F := PX_F P
  have sc := sc_c H
  have sj : stC j := H.1.2.2.2
  have dd := H.1.2.1
  have q0 : sfq (sI σ 40 3 1) σ k j := sfq_i (by omega)
  have H1 := SC_q q0 H
  obtain ⟨τ, t11, c1, ⟨c5, c7, c6⟩, d1, d2, d3, d4⟩ := T211 (σ := sI σ 40 3 1) (k := j) (j := k) (sc_j H1) (sc_k H1) (by omega) (CSt_i sc hS) F P.1.2.2.2.2.2.1 hl
  have q1 : sfq τ (sI σ 40 3 1) k j := ⟨fun k' s _ _ p => d1 k' s p, fun k' s _ _ p => d2 k' s p, fun k' s p => d3 k' s p, d4⟩
  refine okc_o (τ := τ) ?_ ⟨⟨sfq_t q1 q0, ?_, c1⟩, ⟨?_, ?_, ?_, ?_⟩, ⟨?_, ?_⟩, fun i s h1 h2 => ?_⟩
  · have hh := sc_h H1
    have ho := sc_o H1
    have ha : ao σ 8 (some j) = True := aoS (sc_j H)
    simp only [M263, e263_0, e263_16, Option.getD_some, Option.bind_some, Option.toList_some, Option.toList_none, List.cons_append, List.nil_append, and_self, and_true, true_and, false_and, and_false, ite_self, not_true_eq_false, not_false_eq_true, reduceIte, Nat.reduceEqDiff, ab_I, ab_L, ab_R, ao_I, ao_L, ao_R, gL_sL, gI_sI, gR_sR, gI_sL, gI_sR, gL_sI, gL_sR, gR_sI, gR_sL, hh, ho, ha, t11]
  · exact CSt_q (fun s => d1 _ _ (by omega)) (fun s => d1 _ _ (by omega)) (fun s => d1 _ _ (by omega)) (fun s => d2 _ _ (by omega)) (CSt_i sc hS)
  · rw [d1 _ _ (by omega), gI_sI, if_pos ⟨rfl, rfl⟩]
  · rw [d1 _ _ (by omega), gI_sI, if_neg (by omega)]
  · rw [d1 _ _ (by omega), gI_sI, if_neg (by omega)]
  · rw [d1 _ _ (by omega), gI_sI, if_neg (by omega)]
  · rw [c7, gI_sI, if_neg (by omega)]
  · rw [c6]; rfl
  · rw [d2 _ _ (by omega)]; rfl
/-- a change of the one way, then a change of the other -/
theorem spj_2 {S1 S2 : ST} {τ1 τ2 : MS} (H : SC σ k j E w) (ht : gI σ 40 8 = t) (h4 : gI σ 40 4 = n) (h5 : gI σ 40 5 = g) (p : ptP ρ σ k j S) (c1 : CSt τ1 k S1) (q1 : csq τ1 ρ k) (c2 : CSt τ2 j S2) (q2 : csq τ2 τ1 j) : spj σ τ2 k j (0, some (n, S1), some (g, S2), t) := by
  obtain ⟨⟨p1, p2, p3⟩, ⟨p4, p5, p6, p7⟩, ⟨p8, p9⟩, -⟩ := p
  have sc := sc_c H
  have sj : stC j := H.1.2.2.2
  have dd := H.1.2.1
  have q2' : sfq τ2 τ1 k j := ⟨fun k' s _ _ r => q2.1 k' s (by omega) (by omega) (by omega), fun k' s _ _ r => q2.2.1 k' s r, fun k' s _ => gR_r q2.2.2, by rw [q2.2.2]⟩
  have o1 : ∀ s, gI τ2 40 s = gI ρ 40 s := fun s => (q2.1 _ _ (by omega) (by omega) (by omega)).trans (q1.1 _ _ (by omega) (by omega) (by omega))
  refine ⟨sfq_t q2' (sfq_t (sfq_s q1) p1), fun _ => ⟨?_, ⟨?_, ?_⟩, ⟨?_, ?_, c2⟩, ?_, ?_⟩⟩
  · show gI τ2 40 8 = t
    rw [o1, p7, ht]
  · exact CSt_q (fun s => q2.1 _ _ (by omega) (by omega) (by omega)) (fun s => q2.1 _ _ (by omega) (by omega) (by omega)) (fun s => q2.1 _ _ (by omega) (by omega) (by omega)) (fun s => q2.2.1 _ _ (by omega)) c1
  · rw [o1, p5, h4]
  · rw [o1, p4]
  · rw [o1, p6, h5]
  · rw [q2.1 _ _ (by omega) (by omega) (by omega), q1.1 _ _ (by omega) (by omega) (by omega), p8]
  · rw [gR_r q2.2.2, gR_r q1.2.2, p9]
theorem CSt_s (hd : k + 3 < j ∨ j + 3 < k) (q : csq τ σ k) (c : CSt σ j S) : CSt τ j S := CSt_q (fun s => q.1 _ _ (by omega) (by omega) (by omega)) (fun s => q.1 _ _ (by omega) (by omega) (by omega)) (fun s => q.1 _ _ (by omega) (by omega) (by omega)) (fun s => q.2.1 _ _ (by omega)) c
/-- as they are -/
theorem spj_p (H : SC σ k j E w) (ht : gI σ 40 8 = t) (h4 : gI σ 40 4 = n) (h5 : gI σ 40 5 = g) (p : ptP ρ σ k j S) : spj σ ρ k j (0, some (n, S), some (g, S), t) := spj_2 H ht h4 h5 p p.1.2.1 (csq_r _ _) p.1.2.2 (csq_r _ _)
theorem relH_id (h : ∀ x ∈ sH S, ¬ x = t) : relH S t = S := by
  refine st_ext rfl (fun _ => rfl) rfl ?_
  exact List.filter_eq_self.mpr fun x hx => decide_eq_true (h x hx)
theorem T264 {z : Int} (H : SC σ k j E w) (hS : CSt σ k S) (P : PX S E t) (ht : gI σ 40 8 = t) (h4 : gI σ 40 4 = n) (h5 : gI σ 40 5 = g) (hd : fD w ≤ 10) (hl : ak σ 2 (gR σ k 6)) (mb : isMb (rgV S (dR w))) (hz : z = 0 ∨ z = 1) :
    okc (MM 264 [mR (some 40), mI 1, mI z] σ) none (fun τ => spj σ τ k j (if z = 1 then (0, some (n, allV S (plcV (vt (rgV S (dR w))))), some (g, becZ S (vt (rgV S (dR w))) (vk (rgV S (dR w)))), t) else (0, some (n, becZ S (vt (rgV S (dR w))) (vk (rgV S (dR w)))), some (g, allV S (plcV (vt (rgV S (dR w))))), t))) := by
  have F := PX_F P
  have sc := sc_c H
  have sj : stC j := H.1.2.2.2
  have dd := H.1.2.1
  have hd' := dR_10 hd
  have l := pR_lt F hd'
  have hv := cAt_rg hS F.1 hd'
  have wv := okW_r P hd'
  have hX := okX_of P.1 P.2.1 P.2.2.1 P.2.2.2
  have l10 : pR S (dR w) + 10 < 100000 := by omega
  have g10 := gSt (sc_k H) (show pR S (dR w) + 10 < 1188 by omega)
  have mb' : vk (rgV S (dR w)) = 6 ∨ vk (rgV S (dR w)) = 10 := mb
  -- what becomes 0
  have bz : relH (allV S (zerV (vt (rgV S (dR w))))) (vt (rgV S (dR w))) = becZ S (vt (rgV S (dR w))) (vk (rgV S (dR w))) := by
    unfold becZ
    by_cases k10 : vk (rgV S (dR w)) = 10
    · rw [if_pos k10]
    · rw [if_neg k10]
      have k6 : vk (rgV S (dR w)) = 6 := by omega
      refine relH_id fun x hx e => ?_
      have := (x_r P.2.2.1 F.1 hd').1.1 k6
      rw [e] at hx
      exact this hx
  generalize rgV S (dR w) = v at *
  have lt : lI (iL (vt v)) = vt v := lIi (by have := wv.2.1; omega) (by have := wv.2.1; omega)
  obtain ⟨ρ, t63, p⟩ := T263 H hS P hl
  have Hρ := SC_q p.1.1 H
  have s59 : MM 264 [mR (some 40), mI 1, mI z] σ = RR (lkB tb264) (B264_59, [some (mR (some 40)), some (mI 1), some (mI z), some (mI (vt v))], [mI (1 - z), mI (vt v), mR (some k)], ρ) := by
    rcases hz with z0 | z1
    · rw [z0]
      simp only [M264, e264_0, e264_35, e264_45, Option.getD_some, Option.bind_some, Option.toList_some, Option.toList_none, List.cons_append, List.nil_append, and_self, and_true, true_and, false_and, and_false, ite_self, not_true_eq_false, not_false_eq_true, reduceIte, Nat.reduceEqDiff, ab_I, ab_L, ab_R, ao_I, ao_L, ao_R, gL_sL, gI_sI, gR_sR, gI_sL, gI_sR, gL_sI, gL_sR, gR_sI, gR_sL, oneI, sc_h H, sc_ao H, T241 H hS F hd, wp10 l10, g10, Int.toNat_natCast, rd_10 hv, lt, t63, sc_h Hρ]
      rfl
    · rw [z1]
      simp only [M264, e264_0, e264_35, e264_45, Option.getD_some, Option.bind_some, Option.toList_some, Option.toList_none, List.cons_append, List.nil_append, and_self, and_true, true_and, false_and, and_false, ite_self, not_true_eq_false, not_false_eq_true, reduceIte, Nat.reduceEqDiff, ab_I, ab_L, ab_R, ao_I, ao_L, ao_R, gL_sL, gI_sI, gR_sR, gI_sL, gI_sR, gL_sI, gL_sR, gR_sI, gR_sL, oneI, sc_h H, sc_ao H, T241 H hS F hd, wp10 l10, g10, Int.toNat_natCast, rd_10 hv, lt, t63, sc_h Hρ]
      rfl
  have r41 : rC ρ 41 = cstN 0#64 := Hρ.2.2.2.2
  obtain ⟨τ1, t30, c1, q1⟩ := T230 (t := vt v) (j := 41) (z := 1 - z) (sc_k Hρ) p.1.2.1 F.2 hX P.1.2.2.2.2.2.1 (by have := wv.2.1; omega) (kc_41 ρ) (by omega) r41 (by omega)
  have H1 := SC_q (sfq_s (j := j) q1) Hρ
  have r41' : rC τ1 41 = cstN 0#64 := H1.2.2.2.2
  obtain ⟨τ2, t30b, c2, q2⟩ := T230 (t := vt v) (j := 41) (z := z) (sc_j H1) (CSt_s dd q1 p.1.2.2) F.2 hX P.1.2.2.2.2.2.1 (by have := wv.2.1; omega) (kc_41 τ1) (by omega) r41' hz
  have sp := spj_2 H ht h4 h5 p c1 q1 c2 q2
  rw [s59]
  have aj : ao τ1 8 (some j) = True := aoS (sc_j H1)
  have s : RR (lkB tb264) (B264_59, [some (mR (some 40)), some (mI 1), some (mI z), some (mI (vt v))], [mI (1 - z), mI (vt v), mR (some k)], ρ) = some (none, τ2) := by
    simp only [e264_59, e264_66, e264_79, Option.getD_some, Option.bind_some, Option.toList_some, Option.toList_none, List.cons_append, List.nil_append, and_self, and_true, true_and, false_and, and_false, ite_self, not_true_eq_false, not_false_eq_true, reduceIte, Nat.reduceEqDiff, ab_I, ab_L, ab_R, ao_I, ao_L, ao_R, gL_sL, gI_sI, gR_sR, gI_sL, gI_sR, gL_sI, gL_sR, gR_sI, gR_sL, sc_ao Hρ, t30, sc_o H1, aj, t30b]
  refine okc_o s ?_
  rcases hz with z0 | z1
  · rw [z0] at sp
    rw [if_neg (show ¬ z = 1 by omega)]
    rw [if_pos (show (1 : Int) - 0 = 1 by decide), if_neg (show ¬ (0 : Int) = 1 by decide), bz] at sp
    exact sp
  · rw [z1] at sp
    rw [if_pos z1]
    rw [if_neg (show ¬ (1 : Int) - 1 = 1 by decide), if_pos rfl, bz] at sp
    exact sp
theorem T265 {z : Int} (H : SC σ k j E w) (hS : CSt σ k S) (P : PX S E t) (ht : gI σ 40 8 = t) (h4 : gI σ 40 4 = n) (h5 : gI σ 40 5 = g) (hd : fD w ≤ 10) (hs : fS w ≤ 10) (hl : ak σ 2 (gR σ k 6)) (hz : z = 0 ∨ z = 1) (hc : isOrd c) :
    okc (MM 265 [mR (some 40), mI c, mI z] σ) none (fun τ => spj σ τ k j (rchJ S (if z = 1 then rgV S (dR w) else rgV S (sRr w)) (if z = 1 then c else turC c) g n t)) := by
  have F := PX_F P
  have sc := sc_c H
  have sj : stC j := H.1.2.2.2
  have dd := H.1.2.1
  obtain ⟨r, hr⟩ : ∃ r, r = (if z = 1 then dR w else sRr w) := ⟨_, rfl⟩
  have r10 : r ≤ 10 := by
    rw [hr]
    split
    · exact dR_10 hd
    · exact sR_10 hs
  have ev : (if z = 1 then rgV S (dR w) else rgV S (sRr w)) = rgV S r := by
    rw [hr]
    split <;> rfl
  have l := pR_lt F r10
  have hv := cAt_rg hS F.1 r10
  have wv := okW_r P r10
  have hX := okX_of P.1 P.2.1 P.2.2.1 P.2.2.2
  have l10 : pR S r + 10 < 100000 := by omega
  have g10 := gSt (sc_k H) (show pR S r + 10 < 1188 by omega)
  have l7 : pR S r + 7 < 100000 := by omega
  have g7 := gSt (sc_k H) (show pR S r + 7 < 1188 by omega)
  rw [ev]
  generalize rgV S r = v at *
  have lt : lI (iL (vt v)) = vt v := lIi (by have := wv.2.1; omega) (by have := wv.2.1; omega)
  obtain ⟨ρ, t63, p⟩ := T263 H hS P hl
  have Hρ := SC_q p.1.1 H
  have aj : ao ρ 8 (some j) = True := aoS (sc_j Hρ)
  have e1 : iL (vo v) + BitVec.ofNat 64 1 = iL (vo v + 1) := iLa (vo v) 1
  -- up to the place
  have s15 : MM 265 [mR (some 40), mI c, mI z] σ = RR (lkB tb265) (B265_15, [some (mR (some 40)), some (mI c), some (mI z), none, none, none, none, none, none, none, none, none], [mI ((pR S r : Nat) : Int)], σ) := by
    rcases hz with z0 | z1
    · rw [hr, z0, if_neg (by decide)]
      simp only [M265, e265_0, Option.getD_some, Option.bind_some, Option.toList_some, Option.toList_none, List.cons_append, List.nil_append, and_self, and_true, true_and, false_and, and_false, ite_self, not_true_eq_false, not_false_eq_true, reduceIte, Nat.reduceEqDiff, ab_I, ab_L, ab_R, ao_I, ao_L, ao_R, gL_sL, gI_sI, gR_sR, gI_sL, gI_sR, gL_sI, gL_sR, gR_sI, gR_sL, T242 H hS F hs]
    · rw [hr, z1, if_pos rfl]
      simp only [M265, e265_0, e265_8, Option.getD_some, Option.bind_some, Option.toList_some, Option.toList_none, List.cons_append, List.nil_append, and_self, and_true, true_and, false_and, and_false, ite_self, not_true_eq_false, not_false_eq_true, reduceIte, Nat.reduceEqDiff, ab_I, ab_L, ab_R, ao_I, ao_L, ao_R, gL_sL, gI_sI, gR_sR, gI_sL, gI_sR, gL_sI, gL_sR, gR_sI, gR_sL, oneI, T241 H hS F hd]
  rw [s15]
  have wo := wv.2.2.2.1
  -- the two kinds of outcome
  have onH : ∀ o : Int, (o = vo v ∨ o = vo v + 1) → ∃ τ, MM 231 [mR (some k), mI (vt v), mL (iL o)] ρ = some (none, τ) ∧ spj σ τ k j (0, some (n, allV S (rchV (vt v) o)), some (g, S), t) := fun o ho => by
    obtain ⟨τ, t31, c1, q1⟩ := T231 (t := vt v) (o := o) (sc_k Hρ) p.1.2.1 F.2 hX (by have := wv.2.1; omega) (by omega)
    exact ⟨τ, t31, spj_2 H ht h4 h5 p c1 (csq_c q1) (CSt_s dd (csq_c q1) p.1.2.2) (csq_r _ _)⟩
  have onO : ∀ o : Int, (o = vo v ∨ o = vo v + 1) → ∃ τ, MM 231 [mR (some j), mI (vt v), mL (iL o)] ρ = some (none, τ) ∧ spj σ τ k j (0, some (n, S), some (g, allV S (rchV (vt v) o)), t) := fun o ho => by
    obtain ⟨τ, t31, c1, q1⟩ := T231 (t := vt v) (o := o) (sc_j Hρ) p.1.2.2 F.2 hX (by have := wv.2.1; omega) (by omega)
    exact ⟨τ, t31, spj_2 H ht h4 h5 p p.1.2.1 (csq_r _ _) c1 (csq_c q1)⟩
  unfold rchJ
  rcases hz with z0 | z1
  · rw [if_neg (show ¬ z = 1 by omega), z0]
    rcases hc with c0 | c0 | c0 | c0
    · have e : turC c = 160 := by rw [c0]; rfl
      rw [e, c0]
      obtain ⟨τ, t31, sp⟩ := onO (vo v + 1) (Or.inr rfl)
      refine okc_o (τ := τ) ?_ sp
      simp only [e265_15, e265_57, e265_62, e265_77, e265_82, e265_88, e265_99, e265_117, e265_131, e265_151, e265_154, Option.getD_some, Option.bind_some, Option.toList_some, Option.toList_none, List.cons_append, List.nil_append, and_self, and_true, true_and, false_and, and_false, ite_self, not_true_eq_false, not_false_eq_true, reduceIte, Nat.reduceEqDiff, ab_I, ab_L, ab_R, ao_I, ao_L, ao_R, gL_sL, gI_sI, gR_sR, gI_sL, gI_sR, gL_sI, gL_sR, gR_sI, gR_sL, sc_h H, sc_ao H, wp10 l10, wp7 l7, g10, g7, Int.toNat_natCast, rd_10 hv, rd_7 hv, lt, Int.reduceEq, t63, sc_h Hρ, sc_o Hρ, sc_ao Hρ, aj, e1, t31]
    · have e : turC c = 176 := by rw [c0]; rfl
      rw [e, c0]
      obtain ⟨τ, t31, sp⟩ := onO (vo v) (Or.inl rfl)
      refine okc_o (τ := τ) ?_ sp
      simp only [e265_15, e265_57, e265_62, e265_77, e265_82, e265_88, e265_99, e265_117, e265_131, e265_151, e265_154, Option.getD_some, Option.bind_some, Option.toList_some, Option.toList_none, List.cons_append, List.nil_append, and_self, and_true, true_and, false_and, and_false, ite_self, not_true_eq_false, not_false_eq_true, reduceIte, Nat.reduceEqDiff, ab_I, ab_L, ab_R, ao_I, ao_L, ao_R, gL_sL, gI_sI, gR_sR, gI_sL, gI_sR, gL_sI, gL_sR, gR_sI, gR_sL, sc_h H, sc_ao H, wp10 l10, wp7 l7, g10, g7, Int.toNat_natCast, rd_10 hv, rd_7 hv, lt, Int.reduceEq, t63, sc_h Hρ, sc_o Hρ, sc_ao Hρ, aj, e1, t31]
    · have e : turC c = 32 := by rw [c0]; rfl
      rw [e, c0]
      obtain ⟨τ, t31, sp⟩ := onH (vo v) (Or.inl rfl)
      refine okc_o (τ := τ) ?_ sp
      simp only [e265_15, e265_57, e265_62, e265_77, e265_82, e265_88, e265_99, e265_117, e265_131, e265_151, e265_154, Option.getD_some, Option.bind_some, Option.toList_some, Option.toList_none, List.cons_append, List.nil_append, and_self, and_true, true_and, false_and, and_false, ite_self, not_true_eq_false, not_false_eq_true, reduceIte, Nat.reduceEqDiff, ab_I, ab_L, ab_R, ao_I, ao_L, ao_R, gL_sL, gI_sI, gR_sR, gI_sL, gI_sR, gL_sI, gL_sR, gR_sI, gR_sL, sc_h H, sc_ao H, wp10 l10, wp7 l7, g10, g7, Int.toNat_natCast, rd_10 hv, rd_7 hv, lt, Int.reduceEq, t63, sc_h Hρ, sc_o Hρ, sc_ao Hρ, aj, e1, t31]
    · have e : turC c = 48 := by rw [c0]; rfl
      rw [e, c0]
      obtain ⟨τ, t31, sp⟩ := onH (vo v + 1) (Or.inr rfl)
      refine okc_o (τ := τ) ?_ sp
      simp only [e265_15, e265_57, e265_62, e265_77, e265_82, e265_88, e265_99, e265_117, e265_131, e265_151, e265_154, Option.getD_some, Option.bind_some, Option.toList_some, Option.toList_none, List.cons_append, List.nil_append, and_self, and_true, true_and, false_and, and_false, ite_self, not_true_eq_false, not_false_eq_true, reduceIte, Nat.reduceEqDiff, ab_I, ab_L, ab_R, ao_I, ao_L, ao_R, gL_sL, gI_sI, gR_sR, gI_sL, gI_sR, gL_sI, gL_sR, gR_sI, gR_sL, sc_h H, sc_ao H, wp10 l10, wp7 l7, g10, g7, Int.toNat_natCast, rd_10 hv, rd_7 hv, lt, Int.reduceEq, t63, sc_h Hρ, sc_o Hρ, sc_ao Hρ, aj, e1, t31]
  · rw [if_pos z1, z1]
    rcases hc with c0 | c0 | c0 | c0
    · rw [c0]
      obtain ⟨τ, t31, sp⟩ := onH (vo v) (Or.inl rfl)
      refine okc_o (τ := τ) ?_ sp
      simp only [e265_15, e265_57, e265_62, e265_77, e265_82, e265_88, e265_99, e265_117, e265_131, e265_151, e265_154, Option.getD_some, Option.bind_some, Option.toList_some, Option.toList_none, List.cons_append, List.nil_append, and_self, and_true, true_and, false_and, and_false, ite_self, not_true_eq_false, not_false_eq_true, reduceIte, Nat.reduceEqDiff, ab_I, ab_L, ab_R, ao_I, ao_L, ao_R, gL_sL, gI_sI, gR_sR, gI_sL, gI_sR, gL_sI, gL_sR, gR_sI, gR_sL, sc_h H, sc_ao H, wp10 l10, wp7 l7, g10, g7, Int.toNat_natCast, rd_10 hv, rd_7 hv, lt, Int.reduceEq, t63, sc_h Hρ, sc_o Hρ, sc_ao Hρ, aj, e1, t31]
    · rw [c0]
      obtain ⟨τ, t31, sp⟩ := onH (vo v + 1) (Or.inr rfl)
      refine okc_o (τ := τ) ?_ sp
      simp only [e265_15, e265_57, e265_62, e265_77, e265_82, e265_88, e265_99, e265_117, e265_131, e265_151, e265_154, Option.getD_some, Option.bind_some, Option.toList_some, Option.toList_none, List.cons_append, List.nil_append, and_self, and_true, true_and, false_and, and_false, ite_self, not_true_eq_false, not_false_eq_true, reduceIte, Nat.reduceEqDiff, ab_I, ab_L, ab_R, ao_I, ao_L, ao_R, gL_sL, gI_sI, gR_sR, gI_sL, gI_sR, gL_sI, gL_sR, gR_sI, gR_sL, sc_h H, sc_ao H, wp10 l10, wp7 l7, g10, g7, Int.toNat_natCast, rd_10 hv, rd_7 hv, lt, Int.reduceEq, t63, sc_h Hρ, sc_o Hρ, sc_ao Hρ, aj, e1, t31]
    · rw [c0]
      obtain ⟨τ, t31, sp⟩ := onO (vo v + 1) (Or.inr rfl)
      refine okc_o (τ := τ) ?_ sp
      simp only [e265_15, e265_57, e265_62, e265_77, e265_82, e265_88, e265_99, e265_117, e265_131, e265_151, e265_154, Option.getD_some, Option.bind_some, Option.toList_some, Option.toList_none, List.cons_append, List.nil_append, and_self, and_true, true_and, false_and, and_false, ite_self, not_true_eq_false, not_false_eq_true, reduceIte, Nat.reduceEqDiff, ab_I, ab_L, ab_R, ao_I, ao_L, ao_R, gL_sL, gI_sI, gR_sR, gI_sL, gI_sR, gL_sI, gL_sR, gR_sI, gR_sL, sc_h H, sc_ao H, wp10 l10, wp7 l7, g10, g7, Int.toNat_natCast, rd_10 hv, rd_7 hv, lt, Int.reduceEq, t63, sc_h Hρ, sc_o Hρ, sc_ao Hρ, aj, e1, t31]
    · rw [c0]
      obtain ⟨τ, t31, sp⟩ := onO (vo v) (Or.inl rfl)
      refine okc_o (τ := τ) ?_ sp
      simp only [e265_15, e265_57, e265_62, e265_77, e265_82, e265_88, e265_99, e265_117, e265_131, e265_151, e265_154, Option.getD_some, Option.bind_some, Option.toList_some, Option.toList_none, List.cons_append, List.nil_append, and_self, and_true, true_and, false_and, and_false, ite_self, not_true_eq_false, not_false_eq_true, reduceIte, Nat.reduceEqDiff, ab_I, ab_L, ab_R, ao_I, ao_L, ao_R, gL_sL, gI_sI, gR_sR, gI_sL, gI_sR, gL_sI, gL_sR, gR_sI, gR_sL, sc_h H, sc_ao H, wp10 l10, wp7 l7, g10, g7, Int.toNat_natCast, rd_10 hv, rd_7 hv, lt, Int.reduceEq, t63, sc_h Hρ, sc_o Hρ, sc_ao Hρ, aj, e1, t31]
/-! what is decided -/
theorem T266 : MM 266 [mI c] σ = some (some (mI (b2 (isSgn c))), σ) := by
  by_cases c1 : c = 96
  · rw [b2_yes (p := isSgn c) (Or.inl c1)]
    simp only [M266, e266_0, e266_26, Option.getD_some, Option.bind_some, Option.toList_some, Option.toList_none, List.cons_append, List.nil_append, and_self, and_true, true_and, false_and, and_false, ite_self, not_true_eq_false, not_false_eq_true, reduceIte, Nat.reduceEqDiff, ab_I, ab_L, ab_R, ao_I, ao_L, ao_R, gL_sL, gI_sI, gR_sR, gI_sL, gI_sR, gL_sI, gL_sR, gR_sI, gR_sL, c1]
  · by_cases c2 : c = 112
    · rw [b2_yes (p := isSgn c) (Or.inr (Or.inl c2))]
      simp only [M266, e266_0, e266_26, Option.getD_some, Option.bind_some, Option.toList_some, Option.toList_none, List.cons_append, List.nil_append, and_self, and_true, true_and, false_and, and_false, ite_self, not_true_eq_false, not_false_eq_true, reduceIte, Nat.reduceEqDiff, ab_I, ab_L, ab_R, ao_I, ao_L, ao_R, gL_sL, gI_sI, gR_sR, gI_sL, gI_sR, gL_sI, gL_sR, gR_sI, gR_sL, c2, Int.reduceEq]
    · by_cases c3 : c = 192
      · rw [b2_yes (p := isSgn c) (Or.inr (Or.inr (Or.inl c3)))]
        simp only [M266, e266_0, e266_26, Option.getD_some, Option.bind_some, Option.toList_some, Option.toList_none, List.cons_append, List.nil_append, and_self, and_true, true_and, false_and, and_false, ite_self, not_true_eq_false, not_false_eq_true, reduceIte, Nat.reduceEqDiff, ab_I, ab_L, ab_R, ao_I, ao_L, ao_R, gL_sL, gI_sI, gR_sR, gI_sL, gI_sR, gL_sI, gL_sR, gR_sI, gR_sL, c3, Int.reduceEq]
      · by_cases c4 : c = 208
        · rw [b2_yes (p := isSgn c) (Or.inr (Or.inr (Or.inr c4)))]
          simp only [M266, e266_0, e266_26, Option.getD_some, Option.bind_some, Option.toList_some, Option.toList_none, List.cons_append, List.nil_append, and_self, and_true, true_and, false_and, and_false, ite_self, not_true_eq_false, not_false_eq_true, reduceIte, Nat.reduceEqDiff, ab_I, ab_L, ab_R, ao_I, ao_L, ao_R, gL_sL, gI_sI, gR_sR, gI_sL, gI_sR, gL_sI, gL_sR, gR_sI, gR_sL, c4, Int.reduceEq]
        · rw [b2_no (p := isSgn c) (by omega)]
          simp only [M266, e266_0, Option.getD_some, Option.bind_some, Option.toList_some, Option.toList_none, List.cons_append, List.nil_append, and_self, and_true, true_and, false_and, and_false, ite_self, not_true_eq_false, not_false_eq_true, reduceIte, Nat.reduceEqDiff, ab_I, ab_L, ab_R, ao_I, ao_L, ao_R, gL_sL, gI_sI, gR_sR, gI_sL, gI_sR, gL_sI, gL_sR, gR_sI, gR_sL, c1, c2, c3, c4]
theorem T269 {a : B64} : MM 269 [mL a] σ = some (some (mL (a ^^^ cMin)), σ) := by
  simp only [M269, e269_0, iL_min]
theorem xor63 {m : Nat} (h : m < 2 ^ 63) : m ^^^ 2 ^ 63 = 2 ^ 63 + m := by
  apply Nat.eq_of_testBit_eq
  intro i
  rw [Nat.testBit_xor, Nat.testBit_two_pow]
  by_cases e : i = 63
  · subst e
    rw [Nat.testBit_two_pow_add_eq, decide_eq_true rfl, Nat.testBit_lt_two_pow h]
    rfl
  · rw [decide_eq_false (fun z => e z.symm), Bool.xor_false]
    by_cases l : i < 63
    · rw [Nat.testBit_two_pow_add_gt l]
    · have b64 : 2 ^ 64 ≤ 2 ^ i := Nat.pow_le_pow_right (by decide) (by omega)
      rw [Nat.testBit_lt_two_pow (Nat.lt_of_lt_of_le h (Nat.le_trans (by decide) b64)), Nat.testBit_lt_two_pow (Nat.lt_of_lt_of_le (by omega) b64)]
theorem xorM (z : B64) : (z ^^^ cMin).toNat = if z.toNat < 9223372036854775808 then z.toNat + 9223372036854775808 else z.toNat - 9223372036854775808 := by
  have e : cMin.toNat = 2 ^ 63 := by decide
  have lt := z.isLt
  rw [BitVec.toNat_xor, e]
  by_cases h : z.toNat < 9223372036854775808
  · rw [if_pos h, xor63 h]
    omega
  · rw [if_neg h]
    obtain ⟨m, hm⟩ : ∃ m, z.toNat = 2 ^ 63 + m := ⟨z.toNat - 2 ^ 63, by omega⟩
    have ml : m < 2 ^ 63 := by omega
    rw [hm, ← xor63 ml, Nat.xor_assoc, Nat.xor_self, Nat.xor_zero]
    have := xor63 ml
    omega
theorem flip_x (a b : B64) : (a ^^^ cMin < b ^^^ cMin) = (a.toInt < b.toInt) := by
  apply propext
  rw [BitVec.lt_def, xorM, xorM, BitVec.toInt_eq_toNat_cond, BitVec.toInt_eq_toNat_cond]
  have la := a.isLt
  have lb := b.isLt
  split <;> split <;> split <;> split <;> omega
theorem T271 {a b d e : B64} : MM 271 [mL a, mL b, mL d, mL e] σ = some (some (mI (if e < a then 1 else if ¬ d < b then 0 else -1)), σ) := by
  by_cases h1 : e < a
  · rw [if_pos h1]
    simp only [M271, e271_0, e271_6, Option.getD_some, Option.bind_some, Option.toList_some, Option.toList_none, List.cons_append, List.nil_append, and_self, and_true, true_and, false_and, and_false, ite_self, not_true_eq_false, not_false_eq_true, reduceIte, Nat.reduceEqDiff, ab_I, ab_L, ab_R, ao_I, ao_L, ao_R, gL_sL, gI_sI, gR_sR, gI_sL, gI_sR, gL_sI, gL_sR, gR_sI, gR_sL, T17, b2_0', eq_true h1]
  · rw [if_neg h1]
    by_cases h2 : d < b
    · rw [if_neg (not_not_intro h2)]
      simp only [M271, e271_0, e271_6, e271_19, Option.getD_some, Option.bind_some, Option.toList_some, Option.toList_none, List.cons_append, List.nil_append, and_self, and_true, true_and, false_and, and_false, ite_self, not_true_eq_false, not_false_eq_true, reduceIte, Nat.reduceEqDiff, ab_I, ab_L, ab_R, ao_I, ao_L, ao_R, gL_sL, gI_sI, gR_sR, gI_sL, gI_sR, gL_sI, gL_sR, gR_sI, gR_sL, T17, b2_0', b2_n', h1, h2]
    · rw [if_pos h2]
      simp only [M271, e271_0, e271_6, e271_19, Option.getD_some, Option.bind_some, Option.toList_some, Option.toList_none, List.cons_append, List.nil_append, and_self, and_true, true_and, false_and, and_false, ite_self, not_true_eq_false, not_false_eq_true, reduceIte, Nat.reduceEqDiff, ab_I, ab_L, ab_R, ao_I, ao_L, ao_R, gL_sL, gI_sI, gR_sR, gI_sL, gI_sR, gL_sI, gL_sR, gR_sI, gR_sL, T17, b2_0', b2_n', h1, h2]
theorem T272 {a b d e : B64} : MM 272 [mL a, mL b, mL d, mL e] σ = some (some (mI (if ¬ a < e then 1 else if b < d then 0 else -1)), σ) := by
  by_cases h1 : a < e
  · rw [if_neg (not_not_intro h1)]
    by_cases h2 : b < d
    · rw [if_pos h2]
      simp only [M272, e272_0, e272_6, e272_19, Option.getD_some, Option.bind_some, Option.toList_some, Option.toList_none, List.cons_append, List.nil_append, and_self, and_true, true_and, false_and, and_false, ite_self, not_true_eq_false, not_false_eq_true, reduceIte, Nat.reduceEqDiff, ab_I, ab_L, ab_R, ao_I, ao_L, ao_R, gL_sL, gI_sI, gR_sR, gI_sL, gI_sR, gL_sI, gL_sR, gR_sI, gR_sL, T17, b2_0', b2_n', h1, h2]
    · rw [if_neg h2]
      simp only [M272, e272_0, e272_6, e272_19, Option.getD_some, Option.bind_some, Option.toList_some, Option.toList_none, List.cons_append, List.nil_append, and_self, and_true, true_and, false_and, and_false, ite_self, not_true_eq_false, not_false_eq_true, reduceIte, Nat.reduceEqDiff, ab_I, ab_L, ab_R, ao_I, ao_L, ao_R, gL_sL, gI_sI, gR_sR, gI_sL, gI_sR, gL_sI, gL_sR, gR_sI, gR_sL, T17, b2_0', b2_n', h1, h2]
  · rw [if_pos h1]
    simp only [M272, e272_0, e272_6, Option.getD_some, Option.bind_some, Option.toList_some, Option.toList_none, List.cons_append, List.nil_append, and_self, and_true, true_and, false_and, and_false, ite_self, not_true_eq_false, not_false_eq_true, reduceIte, Nat.reduceEqDiff, ab_I, ab_L, ab_R, ao_I, ao_L, ao_R, gL_sL, gI_sI, gR_sR, gI_sL, gI_sR, gL_sI, gL_sR, gR_sI, gR_sL, T17, b2_n', h1]
theorem aoNr {k : Nat} (h : isNm σ k) : ao σ 2 (some k) = True := aoN h
theorem T270 {p q : Nat} (hp : isNm σ p) (hq : isNm σ q) : MM 270 [mR (some p), mR (some q)] σ = some (some (mI (equN (rC σ p) (rC σ q))), σ) := by
  have p0 : gL σ p 0 = jV (rC σ p) := rfl
  have p1 : gL σ p 1 = jM (rC σ p) := rfl
  have p2 : gL σ p 2 = jA (rC σ p) := rfl
  have p3 : gL σ p 3 = jB (rC σ p) := rfl
  have p4 : gL σ p 4 = jC (rC σ p) := rfl
  have p5 : gL σ p 5 = jD (rC σ p) := rfl
  have q0 : gL σ q 0 = jV (rC σ q) := rfl
  have q1 : gL σ q 1 = jM (rC σ q) := rfl
  have q2 : gL σ q 2 = jA (rC σ q) := rfl
  have q3 : gL σ q 3 = jB (rC σ q) := rfl
  have q4 : gL σ q 4 = jC (rC σ q) := rfl
  have q5 : gL σ q 5 = jD (rC σ q) := rfl
  generalize rC σ p = x at *
  generalize rC σ q = y at *
  have ap := aoN hp
  have aq := aoN hq
  unfold equN
  by_cases one : (isC x ∧ isC y) ∧ jV x = jV y
  · rw [if_pos one]
    have m1 : jM x = BitVec.ofNat 64 0 := one.1.1
    have m2 : jM y = BitVec.ofNat 64 0 := one.1.2
    have m3 := one.2
    simp only [M270, e270_0, Option.getD_some, Option.bind_some, Option.toList_some, Option.toList_none, List.cons_append, List.nil_append, and_self, and_true, true_and, false_and, and_false, ite_self, not_true_eq_false, not_false_eq_true, reduceIte, Nat.reduceEqDiff, ab_I, ab_L, ab_R, ao_I, ao_L, ao_R, gL_sL, gI_sI, gR_sR, gI_sL, gI_sR, gL_sI, gL_sR, gR_sI, gR_sL, ap, aq, p1, q1, p0, q0, m1, m2, m3]
  · rw [if_neg one]
    have s32 : MM 270 [mR (some p), mR (some q)] σ = RR (lkB tb270) (B270_32, [some (mR (some p)), some (mR (some q)), none, none], [], σ) := by
      by_cases m1 : jM x = BitVec.ofNat 64 0
      · by_cases m2 : jM y = BitVec.ofNat 64 0
        · have m3 : ¬ jV x = jV y := fun z => one ⟨⟨m1, m2⟩, z⟩
          simp only [M270, e270_0, Option.getD_some, Option.bind_some, Option.toList_some, Option.toList_none, List.cons_append, List.nil_append, and_self, and_true, true_and, false_and, and_false, ite_self, not_true_eq_false, not_false_eq_true, reduceIte, Nat.reduceEqDiff, ab_I, ab_L, ab_R, ao_I, ao_L, ao_R, gL_sL, gI_sI, gR_sR, gI_sL, gI_sR, gL_sI, gL_sR, gR_sI, gR_sL, ap, aq, p1, q1, p0, q0, eq_true m1, eq_true m2, m3]
        · simp only [M270, e270_0, Option.getD_some, Option.bind_some, Option.toList_some, Option.toList_none, List.cons_append, List.nil_append, and_self, and_true, true_and, false_and, and_false, ite_self, not_true_eq_false, not_false_eq_true, reduceIte, Nat.reduceEqDiff, ab_I, ab_L, ab_R, ao_I, ao_L, ao_R, gL_sL, gI_sI, gR_sR, gI_sL, gI_sR, gL_sI, gL_sR, gR_sI, gR_sL, ap, aq, p1, q1, eq_true m1, m2]
      · simp only [M270, e270_0, Option.getD_some, Option.bind_some, Option.toList_some, Option.toList_none, List.cons_append, List.nil_append, and_self, and_true, true_and, false_and, and_false, ite_self, not_true_eq_false, not_false_eq_true, reduceIte, Nat.reduceEqDiff, ab_I, ab_L, ab_R, ao_I, ao_L, ao_R, gL_sL, gI_sI, gR_sR, gI_sL, gI_sR, gL_sI, gL_sR, gR_sI, gR_sL, ap, aq, p1, m1]
    have t17a := T17 (x0 := jB x) (x2 := jA y) (σ := σ)
    have t17b := T17 (x0 := jB y) (x2 := jA x) (σ := σ)
    -- whether they are apart by their ranges
    have rest : ∀ v : Int, v = 0 ∨ v = 1 → RR (lkB tb270) (B270_69, [some (mR (some p)), some (mR (some q)), none, none], [mI v], σ) = some (some (mI (if v = 1 ∨ jB x < jA y ∨ jB y < jA x ∨ (jD x).toInt < (jC y).toInt ∨ (jD y).toInt < (jC x).toInt then 0 else -1)), σ) := fun v hv => by
      by_cases a1 : jB x < jA y
      · rw [if_pos (Or.inr (Or.inl a1))]
        rw [b2_yes a1] at t17a
        rcases hv with hv | hv
        · subst hv
          simp only [e270_69, e270_81, e270_122, e270_127, e270_136, Option.getD_some, Option.bind_some, Option.toList_some, Option.toList_none, List.cons_append, List.nil_append, and_self, and_true, true_and, false_and, and_false, ite_self, not_true_eq_false, not_false_eq_true, reduceIte, Nat.reduceEqDiff, ab_I, ab_L, ab_R, ao_I, ao_L, ao_R, gL_sL, gI_sI, gR_sR, gI_sL, gI_sR, gL_sI, gL_sR, gR_sI, gR_sL, ap, aq, p3, q2, t17a, oneI]
        · subst hv
          simp only [e270_69, e270_81, e270_122, e270_127, e270_136, Option.getD_some, Option.bind_some, Option.toList_some, Option.toList_none, List.cons_append, List.nil_append, and_self, and_true, true_and, false_and, and_false, ite_self, not_true_eq_false, not_false_eq_true, reduceIte, Nat.reduceEqDiff, ab_I, ab_L, ab_R, ao_I, ao_L, ao_R, gL_sL, gI_sI, gR_sR, gI_sL, gI_sR, gL_sI, gL_sR, gR_sI, gR_sL, ap, aq, p3, q2, t17a, oneI]
      · rw [b2_no a1] at t17a
        by_cases a2 : jB y < jA x
        · rw [if_pos (Or.inr (Or.inr (Or.inl a2)))]
          rw [b2_yes a2] at t17b
          rcases hv with hv | hv
          · subst hv
            simp only [e270_69, e270_81, e270_95, e270_122, e270_127, e270_136, Option.getD_some, Option.bind_some, Option.toList_some, Option.toList_none, List.cons_append, List.nil_append, and_self, and_true, true_and, false_and, and_false, ite_self, not_true_eq_false, not_false_eq_true, reduceIte, Nat.reduceEqDiff, ab_I, ab_L, ab_R, ao_I, ao_L, ao_R, gL_sL, gI_sI, gR_sR, gI_sL, gI_sR, gL_sI, gL_sR, gR_sI, gR_sL, ap, aq, p3, q2, q3, p2, t17a, t17b, oneI]
          · subst hv
            simp only [e270_69, e270_81, e270_95, e270_122, e270_127, e270_136, Option.getD_some, Option.bind_some, Option.toList_some, Option.toList_none, List.cons_append, List.nil_append, and_self, and_true, true_and, false_and, and_false, ite_self, not_true_eq_false, not_false_eq_true, reduceIte, Nat.reduceEqDiff, ab_I, ab_L, ab_R, ao_I, ao_L, ao_R, gL_sL, gI_sI, gR_sR, gI_sL, gI_sR, gL_sI, gL_sR, gR_sI, gR_sL, ap, aq, p3, q2, q3, p2, t17a, t17b, oneI]
        · rw [b2_no a2] at t17b
          by_cases a3 : (jD x).toInt < (jC y).toInt
          · rw [if_pos (Or.inr (Or.inr (Or.inr (Or.inl a3))))]
            rcases hv with hv | hv
            · subst hv
              simp only [e270_69, e270_81, e270_95, e270_122, e270_127, e270_136, Option.getD_some, Option.bind_some, Option.toList_some, Option.toList_none, List.cons_append, List.nil_append, and_self, and_true, true_and, false_and, and_false, ite_self, not_true_eq_false, not_false_eq_true, reduceIte, Nat.reduceEqDiff, ab_I, ab_L, ab_R, ao_I, ao_L, ao_R, gL_sL, gI_sI, gR_sR, gI_sL, gI_sR, gL_sI, gL_sR, gR_sI, gR_sL, ap, aq, p3, q2, q3, p2, t17a, t17b, p5, q4, eq_true a3, oneI]
            · subst hv
              simp only [e270_69, e270_81, e270_95, e270_122, e270_127, e270_136, Option.getD_some, Option.bind_some, Option.toList_some, Option.toList_none, List.cons_append, List.nil_append, and_self, and_true, true_and, false_and, and_false, ite_self, not_true_eq_false, not_false_eq_true, reduceIte, Nat.reduceEqDiff, ab_I, ab_L, ab_R, ao_I, ao_L, ao_R, gL_sL, gI_sI, gR_sR, gI_sL, gI_sR, gL_sI, gL_sR, gR_sI, gR_sL, ap, aq, p3, q2, q3, p2, t17a, t17b, p5, q4, eq_true a3, oneI]
          · by_cases a4 : (jC x).toInt ≤ (jD y).toInt
            · have a4' : ¬ (jD y).toInt < (jC x).toInt := by omega
              rcases hv with hv | hv
              · subst hv
                rw [if_neg (fun z => by
                  rcases z with z | z | z | z | z
                  · omega
                  · exact a1 z
                  · exact a2 z
                  · exact a3 z
                  · exact a4' z)]
                simp only [e270_69, e270_81, e270_95, e270_127, e270_136, Option.getD_some, Option.bind_some, Option.toList_some, Option.toList_none, List.cons_append, List.nil_append, and_self, and_true, true_and, false_and, and_false, ite_self, not_true_eq_false, not_false_eq_true, reduceIte, Nat.reduceEqDiff, ab_I, ab_L, ab_R, ao_I, ao_L, ao_R, gL_sL, gI_sI, gR_sR, gI_sL, gI_sR, gL_sI, gL_sR, gR_sI, gR_sL, ap, aq, p3, q2, q3, p2, t17a, t17b, p5, q4, a3, p4, q5, eq_true a4]
              · subst hv
                rw [if_pos (Or.inl rfl)]
                simp only [e270_69, e270_81, e270_95, e270_127, e270_136, Option.getD_some, Option.bind_some, Option.toList_some, Option.toList_none, List.cons_append, List.nil_append, and_self, and_true, true_and, false_and, and_false, ite_self, not_true_eq_false, not_false_eq_true, reduceIte, Nat.reduceEqDiff, ab_I, ab_L, ab_R, ao_I, ao_L, ao_R, gL_sL, gI_sI, gR_sR, gI_sL, gI_sR, gL_sI, gL_sR, gR_sI, gR_sL, ap, aq, p3, q2, q3, p2, t17a, t17b, p5, q4, a3, p4, q5, eq_true a4, oneI]
            · rw [if_pos (Or.inr (Or.inr (Or.inr (Or.inr (by omega)))))]
              rcases hv with hv | hv
              · subst hv
                simp only [e270_69, e270_81, e270_95, e270_122, e270_127, e270_136, Option.getD_some, Option.bind_some, Option.toList_some, Option.toList_none, List.cons_append, List.nil_append, and_self, and_true, true_and, false_and, and_false, ite_self, not_true_eq_false, not_false_eq_true, reduceIte, Nat.reduceEqDiff, ab_I, ab_L, ab_R, ao_I, ao_L, ao_R, gL_sL, gI_sI, gR_sR, gI_sL, gI_sR, gL_sI, gL_sR, gR_sI, gR_sL, ap, aq, p3, q2, q3, p2, t17a, t17b, p5, q4, a3, p4, q5, eq_false a4, oneI]
              · subst hv
                simp only [e270_69, e270_81, e270_95, e270_122, e270_127, e270_136, Option.getD_some, Option.bind_some, Option.toList_some, Option.toList_none, List.cons_append, List.nil_append, and_self, and_true, true_and, false_and, and_false, ite_self, not_true_eq_false, not_false_eq_true, reduceIte, Nat.reduceEqDiff, ab_I, ab_L, ab_R, ao_I, ao_L, ao_R, gL_sL, gI_sI, gR_sR, gI_sL, gI_sR, gL_sI, gL_sR, gR_sI, gR_sL, ap, aq, p3, q2, q3, p2, t17a, t17b, p5, q4, a3, p4, q5, eq_false a4, oneI]
    rw [s32]
    by_cases b : ((jV x ^^^ jV y) &&& ~~~ (jM x)) &&& ~~~ (jM y) = 0#64
    · have r := rest 0 (Or.inl rfl)
      have e : apaN x y = (((0 : Int) = 1) ∨ jB x < jA y ∨ jB y < jA x ∨ (jD x).toInt < (jC y).toInt ∨ (jD y).toInt < (jC x).toInt) := by
        apply propext
        constructor
        · rintro (z | z)
          · exact absurd b z
          · exact Or.inr z
        · rintro (z | z)
          · exact absurd z (by decide)
          · exact Or.inr z
      simp only [e]
      simp only [e270_32, Option.getD_some, Option.bind_some, Option.toList_some, Option.toList_none, List.cons_append, List.nil_append, and_self, and_true, true_and, false_and, and_false, ite_self, not_true_eq_false, not_false_eq_true, reduceIte, Nat.reduceEqDiff, ab_I, ab_L, ab_R, ao_I, ao_L, ao_R, gL_sL, gI_sI, gR_sR, gI_sL, gI_sR, gL_sI, gL_sR, gR_sI, gR_sL, ap, aq, p0, p1, q0, q1, iL_m1, xor_all, eq_true b]
      exact r
    · have r := rest 1 (Or.inr rfl)
      rw [if_pos (Or.inl rfl)] at r
      rw [if_pos (show apaN x y from Or.inl b)]
      simp only [e270_32, Option.getD_some, Option.bind_some, Option.toList_some, Option.toList_none, List.cons_append, List.nil_append, and_self, and_true, true_and, false_and, and_false, ite_self, not_true_eq_false, not_false_eq_true, reduceIte, Nat.reduceEqDiff, ab_I, ab_L, ab_R, ao_I, ao_L, ao_R, gL_sL, gI_sI, gR_sR, gI_sL, gI_sR, gL_sI, gL_sR, gR_sI, gR_sL, ap, aq, p0, p1, q0, q1, iL_m1, xor_all, eq_false b]
      exact r
theorem equN_n (x y : N6) : equN x y = 1 ∨ equN x y = 0 ∨ equN x y = -1 := equN_r x y
theorem dx_16 : decX 16 x y = equN x y := by simp only [decX, Int.reduceEq, if_true, if_false, reduceIte]
theorem dx_80 : decX 80 x y = (if equN x y < 0 then equN x y else 1 - equN x y) := by simp only [decX, Int.reduceEq, if_true, if_false, reduceIte]
theorem dx_64 : decX 64 x y = (if ¬ jV x &&& jV y = 0#64 then 1 else if (jV x ||| jM x) &&& (jV y ||| jM y) = 0#64 then 0 else -1) := by simp only [decX, Int.reduceEq, if_true, if_false, reduceIte]
theorem dx_32 : decX 32 x y = aboN x y := by simp only [decX, Int.reduceEq, if_true, if_false, reduceIte]
theorem dx_48 : decX 48 x y = nblN x y := by simp only [decX, Int.reduceEq, if_true, if_false, reduceIte]
theorem dx_160 : decX 160 x y = aboN y x := by simp only [decX, Int.reduceEq, if_true, if_false, reduceIte]
theorem dx_176 : decX 176 x y = nblN y x := by simp only [decX, Int.reduceEq, if_true, if_false, reduceIte]
theorem dx_96 : decX 96 x y = aboS x y := by simp only [decX, Int.reduceEq, if_true, if_false, reduceIte]
theorem dx_112 : decX 112 x y = nblS x y := by simp only [decX, Int.reduceEq, if_true, if_false, reduceIte]
theorem dx_192 : decX 192 x y = aboS y x := by simp only [decX, Int.reduceEq, if_true, if_false, reduceIte]
theorem dx_208 : decX 208 x y = nblS y x := by simp only [decX, Int.reduceEq, if_true, if_false, reduceIte]
set_option maxHeartbeats 4000000 in
theorem T268 {p q : Nat} (hc : isCmp c) (hp : isNm σ p) (hq : isNm σ q) : MM 268 [mI c, mR (some p), mR (some q)] σ = some (some (mI (decX c (rC σ p) (rC σ q))), σ) := by
  have p0 : gL σ p 0 = jV (rC σ p) := rfl
  have p1 : gL σ p 1 = jM (rC σ p) := rfl
  have p2 : gL σ p 2 = jA (rC σ p) := rfl
  have p3 : gL σ p 3 = jB (rC σ p) := rfl
  have p4 : gL σ p 4 = jC (rC σ p) := rfl
  have p5 : gL σ p 5 = jD (rC σ p) := rfl
  have q0 : gL σ q 0 = jV (rC σ q) := rfl
  have q1 : gL σ q 1 = jM (rC σ q) := rfl
  have q2 : gL σ q 2 = jA (rC σ q) := rfl
  have q3 : gL σ q 3 = jB (rC σ q) := rfl
  have q4 : gL σ q 4 = jC (rC σ q) := rfl
  have q5 : gL σ q 5 = jD (rC σ q) := rfl
  have t70 := T270 hp hq
  generalize rC σ p = x at *
  generalize rC σ q = y at *
  have ap := aoN hp
  have aq := aoN hq
  have le : ∀ a b : B64, (¬ a.toInt < b.toInt) = (b.toInt ≤ a.toInt) := fun a b => by
    apply propext
    omega
  rcases hc with rfl | rfl | rfl | rfl | rfl | rfl | rfl | rfl | rfl | rfl | rfl
  · rw [dx_16]
    simp only [M268, e268_0, e268_97, Option.getD_some, Option.bind_some, Option.toList_some, Option.toList_none, List.cons_append, List.nil_append, and_self, and_true, true_and, false_and, and_false, ite_self, not_true_eq_false, not_false_eq_true, reduceIte, Nat.reduceEqDiff, ab_I, ab_L, ab_R, ao_I, ao_L, ao_R, gL_sL, gI_sI, gR_sR, gI_sL, gI_sR, gL_sI, gL_sR, gR_sI, gR_sL, t70]
  · rw [dx_32]
    unfold aboN
    simp only [M268, e268_0, e268_184, Option.getD_some, Option.bind_some, Option.toList_some, Option.toList_none, List.cons_append, List.nil_append, and_self, and_true, true_and, false_and, and_false, ite_self, not_true_eq_false, not_false_eq_true, reduceIte, Nat.reduceEqDiff, ab_I, ab_L, ab_R, ao_I, ao_L, ao_R, gL_sL, gI_sI, gR_sR, gI_sL, gI_sR, gL_sI, gL_sR, gR_sI, gR_sL, Int.reduceEq, ap, aq, p2, p3, q2, q3, T271] <;> rfl
  · rw [dx_48]
    unfold nblN
    simp only [M268, e268_0, e268_204, Option.getD_some, Option.bind_some, Option.toList_some, Option.toList_none, List.cons_append, List.nil_append, and_self, and_true, true_and, false_and, and_false, ite_self, not_true_eq_false, not_false_eq_true, reduceIte, Nat.reduceEqDiff, ab_I, ab_L, ab_R, ao_I, ao_L, ao_R, gL_sL, gI_sI, gR_sR, gI_sL, gI_sR, gL_sI, gL_sR, gR_sI, gR_sL, Int.reduceEq, ap, aq, p2, p3, q2, q3, T272] <;> rfl
  · rw [dx_64]
    by_cases h1 : jV x &&& jV y = 0#64
    · rw [if_neg (not_not_intro h1)]
      by_cases h2 : (jV x ||| jM x) &&& (jV y ||| jM y) = 0#64
      · rw [if_pos h2]
        simp only [M268, e268_0, Option.getD_some, Option.bind_some, Option.toList_some, Option.toList_none, List.cons_append, List.nil_append, and_self, and_true, true_and, false_and, and_false, ite_self, not_true_eq_false, not_false_eq_true, reduceIte, Nat.reduceEqDiff, ab_I, ab_L, ab_R, ao_I, ao_L, ao_R, gL_sL, gI_sI, gR_sR, gI_sL, gI_sR, gL_sI, gL_sR, gR_sI, gR_sL, Int.reduceEq, ap, aq, p0, p1, q0, q1, eq_true h1, eq_true h2]
      · rw [if_neg h2]
        simp only [M268, e268_0, Option.getD_some, Option.bind_some, Option.toList_some, Option.toList_none, List.cons_append, List.nil_append, and_self, and_true, true_and, false_and, and_false, ite_self, not_true_eq_false, not_false_eq_true, reduceIte, Nat.reduceEqDiff, ab_I, ab_L, ab_R, ao_I, ao_L, ao_R, gL_sL, gI_sI, gR_sR, gI_sL, gI_sR, gL_sI, gL_sR, gR_sI, gR_sL, Int.reduceEq, ap, aq, p0, p1, q0, q1, eq_true h1, eq_false h2]
    · rw [if_pos h1]
      simp only [M268, e268_0, Option.getD_some, Option.bind_some, Option.toList_some, Option.toList_none, List.cons_append, List.nil_append, and_self, and_true, true_and, false_and, and_false, ite_self, not_true_eq_false, not_false_eq_true, reduceIte, Nat.reduceEqDiff, ab_I, ab_L, ab_R, ao_I, ao_L, ao_R, gL_sL, gI_sI, gR_sR, gI_sL, gI_sR, gL_sI, gL_sR, gR_sI, gR_sL, Int.reduceEq, ap, aq, p0, p1, q0, q1, eq_false h1]
  · rw [dx_80]
    rcases equN_r x y with e | e | e
    · rw [e] at t70 ⊢
      simp only [M268, e268_0, e268_103, Option.getD_some, Option.bind_some, Option.toList_some, Option.toList_none, List.cons_append, List.nil_append, and_self, and_true, true_and, false_and, and_false, ite_self, not_true_eq_false, not_false_eq_true, reduceIte, Nat.reduceEqDiff, ab_I, ab_L, ab_R, ao_I, ao_L, ao_R, gL_sL, gI_sI, gR_sR, gI_sL, gI_sR, gL_sI, gL_sR, gR_sI, gR_sL, Int.reduceEq, t70]
      rfl
    · rw [e] at t70 ⊢
      simp only [M268, e268_0, e268_103, Option.getD_some, Option.bind_some, Option.toList_some, Option.toList_none, List.cons_append, List.nil_append, and_self, and_true, true_and, false_and, and_false, ite_self, not_true_eq_false, not_false_eq_true, reduceIte, Nat.reduceEqDiff, ab_I, ab_L, ab_R, ao_I, ao_L, ao_R, gL_sL, gI_sI, gR_sR, gI_sL, gI_sR, gL_sI, gL_sR, gR_sI, gR_sL, Int.reduceEq, t70]
      rfl
    · rw [e] at t70 ⊢
      simp only [M268, e268_0, e268_103, Option.getD_some, Option.bind_some, Option.toList_some, Option.toList_none, List.cons_append, List.nil_append, and_self, and_true, true_and, false_and, and_false, ite_self, not_true_eq_false, not_false_eq_true, reduceIte, Nat.reduceEqDiff, ab_I, ab_L, ab_R, ao_I, ao_L, ao_R, gL_sL, gI_sI, gR_sR, gI_sL, gI_sR, gL_sI, gL_sR, gR_sI, gR_sL, Int.reduceEq, t70]
      rfl
  · rw [dx_96]
    unfold aboS
    simp only [M268, e268_0, e268_252, e268_259, e268_266, e268_273, e268_276, Option.getD_some, Option.bind_some, Option.toList_some, Option.toList_none, List.cons_append, List.nil_append, and_self, and_true, true_and, false_and, and_false, ite_self, not_true_eq_false, not_false_eq_true, reduceIte, Nat.reduceEqDiff, ab_I, ab_L, ab_R, ao_I, ao_L, ao_R, gL_sL, gI_sI, gR_sR, gI_sL, gI_sR, gL_sI, gL_sR, gR_sI, gR_sL, Int.reduceEq, ap, aq, p4, p5, q4, q5, T269, T271, flip_x, le] <;> rfl
  · rw [dx_112]
    unfold nblS
    simp only [M268, e268_0, e268_284, e268_291, e268_298, e268_305, e268_308, Option.getD_some, Option.bind_some, Option.toList_some, Option.toList_none, List.cons_append, List.nil_append, and_self, and_true, true_and, false_and, and_false, ite_self, not_true_eq_false, not_false_eq_true, reduceIte, Nat.reduceEqDiff, ab_I, ab_L, ab_R, ao_I, ao_L, ao_R, gL_sL, gI_sI, gR_sR, gI_sL, gI_sR, gL_sI, gL_sR, gR_sI, gR_sL, Int.reduceEq, ap, aq, p4, p5, q4, q5, T269, T272, flip_x, le] <;> rfl
  · rw [dx_160]
    unfold aboN
    simp only [M268, e268_0, e268_224, Option.getD_some, Option.bind_some, Option.toList_some, Option.toList_none, List.cons_append, List.nil_append, and_self, and_true, true_and, false_and, and_false, ite_self, not_true_eq_false, not_false_eq_true, reduceIte, Nat.reduceEqDiff, ab_I, ab_L, ab_R, ao_I, ao_L, ao_R, gL_sL, gI_sI, gR_sR, gI_sL, gI_sR, gL_sI, gL_sR, gR_sI, gR_sL, Int.reduceEq, ap, aq, p2, p3, q2, q3, T271] <;> rfl
  · rw [dx_176]
    unfold nblN
    simp only [M268, e268_0, e268_244, Option.getD_some, Option.bind_some, Option.toList_some, Option.toList_none, List.cons_append, List.nil_append, and_self, and_true, true_and, false_and, and_false, ite_self, not_true_eq_false, not_false_eq_true, reduceIte, Nat.reduceEqDiff, ab_I, ab_L, ab_R, ao_I, ao_L, ao_R, gL_sL, gI_sI, gR_sR, gI_sL, gI_sR, gL_sI, gL_sR, gR_sI, gR_sL, Int.reduceEq, ap, aq, p2, p3, q2, q3, T272] <;> rfl
  · rw [dx_192]
    unfold aboS
    simp only [M268, e268_0, e268_316, e268_323, e268_330, e268_337, e268_340, Option.getD_some, Option.bind_some, Option.toList_some, Option.toList_none, List.cons_append, List.nil_append, and_self, and_true, true_and, false_and, and_false, ite_self, not_true_eq_false, not_false_eq_true, reduceIte, Nat.reduceEqDiff, ab_I, ab_L, ab_R, ao_I, ao_L, ao_R, gL_sL, gI_sI, gR_sR, gI_sL, gI_sR, gL_sI, gL_sR, gR_sI, gR_sL, Int.reduceEq, ap, aq, p4, p5, q4, q5, T269, T271, flip_x, le] <;> rfl
  · rw [dx_208]
    unfold nblS
    simp only [M268, e268_0, e268_348, e268_355, e268_362, e268_369, e268_372, Option.getD_some, Option.bind_some, Option.toList_some, Option.toList_none, List.cons_append, List.nil_append, and_self, and_true, true_and, false_and, and_false, ite_self, not_true_eq_false, not_false_eq_true, reduceIte, Nat.reduceEqDiff, ab_I, ab_L, ab_R, ao_I, ao_L, ao_R, gL_sL, gI_sI, gR_sR, gI_sL, gI_sR, gL_sI, gL_sR, gR_sI, gR_sL, Int.reduceEq, ap, aq, p4, p5, q4, q5, T269, T272, flip_x, le] <;> rfl
theorem T273 (g7 : gI σ 40 7 = fOp w) (hc : isCmp (fC w)) (h6 : fL w = 6) (ex : rC σ 45 = cutT x) (ey : rC σ 46 = cutT y) : MM 273 [mR (some 40)] σ = some (some (mI (if isC (cutT x) ∧ isC (cutT y) then (if cmpB (fC w) false (jV (cutT x)) (jV (cutT y)) = true then 1 else 0) else -1)), σ) := by
  have f1 := (fld_rng w).1
  have m1 : gL σ 45 1 = jM (cutT x) := by rw [← ex]; rfl
  have m2 : gL σ 46 1 = jM (cutT y) := by rw [← ey]; rfl
  have v1 : gL σ 45 0 = jV (cutT x) := by rw [← ex]; rfl
  have v2 : gL σ 46 0 = jV (cutT y) := by rw [← ey]; rfl
  have t69a := T69 (σ := σ) (k := 45) (kc_45 σ)
  have t69b := T69 (σ := σ) (k := 46) (kc_46 σ)
  rw [m1] at t69a
  rw [m2] at t69b
  have t26 := T26 (op := fOp w) (a := jV (cutT x)) (b := jV (cutT y)) (σ := σ) f1.1 f1.2 hc
  have e5 : decide (fOp w % 8 = 5) = false := decide_eq_false (by have h6 : fOp w % 8 = 6 := h6; omega)
  have cw : cmpW (fOp w / 16 * 16) false (jV (cutT x)) (jV (cutT y)) = cmpB (fC w) false (jV (cutT x)) (jV (cutT y)) := by
    unfold cmpW
    rw [if_neg (by decide), cut_m, cut_m]
    rfl
  rw [e5, cw] at t26
  by_cases c1 : jM (cutT x) = 0#64
  · rw [b2_yes c1] at t69a
    by_cases c2 : jM (cutT y) = 0#64
    · rw [b2_yes c2] at t69b
      rw [if_pos ⟨c1, c2⟩]
      by_cases b : cmpB (fC w) false (jV (cutT x)) (jV (cutT y)) = true
      · rw [if_pos b] at t26 ⊢
        simp only [M273, e273_0, e273_7, e273_17, e273_43, Option.getD_some, Option.bind_some, Option.toList_some, Option.toList_none, List.cons_append, List.nil_append, and_self, and_true, true_and, false_and, and_false, ite_self, not_true_eq_false, not_false_eq_true, reduceIte, Nat.reduceEqDiff, ab_I, ab_L, ab_R, ao_I, ao_L, ao_R, gL_sL, gI_sI, gR_sR, gI_sL, gI_sR, gL_sI, gL_sR, gR_sI, gR_sL, t69a, t69b, oneI, g7, v1, v2, t26]
      · rw [if_neg b] at t26 ⊢
        simp only [M273, e273_0, e273_7, e273_17, e273_43, Option.getD_some, Option.bind_some, Option.toList_some, Option.toList_none, List.cons_append, List.nil_append, and_self, and_true, true_and, false_and, and_false, ite_self, not_true_eq_false, not_false_eq_true, reduceIte, Nat.reduceEqDiff, ab_I, ab_L, ab_R, ao_I, ao_L, ao_R, gL_sL, gI_sI, gR_sR, gI_sL, gI_sR, gL_sI, gL_sR, gR_sI, gR_sL, t69a, t69b, oneI, g7, v1, v2, t26]
    · rw [b2_no c2] at t69b
      rw [if_neg (fun z => c2 z.2)]
      simp only [M273, e273_0, e273_7, e273_17, Option.getD_some, Option.bind_some, Option.toList_some, Option.toList_none, List.cons_append, List.nil_append, and_self, and_true, true_and, false_and, and_false, ite_self, not_true_eq_false, not_false_eq_true, reduceIte, Nat.reduceEqDiff, ab_I, ab_L, ab_R, ao_I, ao_L, ao_R, gL_sL, gI_sI, gR_sR, gI_sL, gI_sR, gL_sI, gL_sR, gR_sI, gR_sL, t69a, t69b, oneI]
  · rw [b2_no c1] at t69a
    rw [if_neg (fun z => c1 z.1)]
    simp only [M273, e273_0, e273_7, Option.getD_some, Option.bind_some, Option.toList_some, Option.toList_none, List.cons_append, List.nil_append, and_self, and_true, true_and, false_and, and_false, ite_self, not_true_eq_false, not_false_eq_true, reduceIte, Nat.reduceEqDiff, ab_I, ab_L, ab_R, ao_I, ao_L, ao_R, gL_sL, gI_sI, gR_sR, gI_sL, gI_sR, gL_sI, gL_sR, gR_sI, gR_sL, t69a]
end CJMP
