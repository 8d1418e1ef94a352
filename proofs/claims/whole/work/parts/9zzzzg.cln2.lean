/-! ===== the class's reader: a line, whole ===== -/
section CL2
variable {t : Nat → Int} {n i j k m l M : Nat} {σ τ ρ υ : MS} {c d e o w x y z a r op f im : Int} {v W Y V : B64} {s : RD}
theorem sC58 : iL (sC 58) = iL 58 := by decide
theorem T150 (h : cG σ t n m s.2.2.2) (hr : cRD m σ s) (hi : invL (tks t n) s) (k0 : ¬ tK (tks t n s.2.2.2) = 0) : okc (MM 150 [mR (some 18)] σ) (some (mI (rVc (pLin t (tks t n) s)))) (fun τ => oR (pLin t (tks t n) s) (fun e => cfa τ σ ∧ gI τ 18 9 = e ∧ 0 ≤ e) (fun s' => cfa τ σ ∧ cRD m τ s' ∧ cG τ t n m s'.2.2.2)) := by
  obtain ⟨a1, a2, a3, a4, a5⟩ := cG_tk h h.2.2.1
  have km := cG_m h
  have l1 := cG_lt h k0
  obtain ⟨b1, b2', b3, b4, b5⟩ := cG_tk h l1
  have m4 := h.1.2.2.1
  have n4 := h.1.1.2.1
  have le := tks_le (t := t) (n := n) s.2.2.2
  have hL : s.1.1 < 1400 := by
    have := hi.2.2
    omega
  have rr := rgR_r (t := t) (X := tks t n s.2.2.2)
  obtain ⟨y, hy⟩ : ∃ y : Int, y = if tK (tks t n s.2.2.2) = 2 ∧ rgR t (tks t n s.2.2.2) < 0 then 1 else 0 := ⟨_, rfl⟩
  have s26 : MM 150 [mR (some 18)] σ = RR (lkB tb150) (B150_26, [some (mR (some 18)), none, none, none], [mI y], σ) := by
    rw [M150, e150_0, h.2.1, if_pos (g20' km), Int.toNat_natCast, a1, hy]
    by_cases k2 : tK (tks t n s.2.2.2) = 2
    · have k1 : kC (tks t n s.2.2.2) = 1 := by rw [kc_2']; exact k2
      rw [if_neg (fun z => z k1), T149 h]
      simp only [Option.bind_some, Option.toList_some, Option.toList_none, List.cons_append, List.nil_append]
      rw [e150_17]
      by_cases rg : rgR t (tks t n s.2.2.2) = -1
      · rw [if_neg (fun z => z rg), if_pos (show tK (tks t n s.2.2.2) = 2 ∧ rgR t (tks t n s.2.2.2) < 0 from ⟨k2, by omega⟩)]
      · rw [if_pos rg, if_neg (show ¬ (tK (tks t n s.2.2.2) = 2 ∧ rgR t (tks t n s.2.2.2) < 0) by omega), e150_25]
    · have k1 : ¬ kC (tks t n s.2.2.2) = 1 := by rw [kc_2']; exact k2
      rw [if_pos k1, if_neg (show ¬ (tK (tks t n s.2.2.2) = 2 ∧ rgR t (tks t n s.2.2.2) < 0) from fun z => k2 z.1), e150_25]
  rw [s26, e150_26]
  have plain : ¬ tK (tks t n s.2.2.2) = 1 → ¬ ((tK (tks t n s.2.2.2) = 2 ∧ rgR t (tks t n s.2.2.2) < 0) ∧ sgn (tks t n) 58 (s.2.2.2 + 1)) → okc (RR (lkB tb150) (B150_133, [some (mR (some 18)), some (mI y), none, none], [], σ)) (some (mI (rVc (pLin t (tks t n) s)))) (fun τ => oR (pLin t (tks t n) s) (fun e => cfa τ σ ∧ gI τ 18 9 = e ∧ 0 ≤ e) (fun s' => cfa τ σ ∧ cRD m τ s' ∧ cG τ t n m s'.2.2.2)) := fun k1 z => by
    have eP : pLin t (tks t n) s = pSta t (tks t n) s := by
      unfold pLin
      rw [if_neg k1, if_neg z]
    rw [eP]
    exact A133 h hr ⟨hi.1, hi.2.1⟩ (cfa_r σ) k1 k0
  by_cases cL : tK (tks t n s.2.2.2) = 2 ∧ rgR t (tks t n s.2.2.2) < 0
  · have k1 : ¬ tK (tks t n s.2.2.2) = 1 := by rw [cL.1]; decide
    have km1 : s.2.2.2 + 1 < 4001 := by omega
    rw [if_pos cL] at hy
    rw [if_neg (show ¬ y = 0 by omega), h.2.1, w32_s1 (show s.2.2.2 < 100000 by omega), if_pos (g20' km1), Int.toNat_natCast, b1]
    by_cases c58 : sgn (tks t n) 58 (s.2.2.2 + 1)
    · have k4 : kC (tks t n (s.2.2.2 + 1)) = 4 := by rw [kc_4']; exact c58.1
      have v58 : gL σ 23 (s.2.2.2 + 1) = iL 58 := by rw [b5 c58.1, c58.2, sC58]
      rw [if_neg (fun z => z k4), if_pos (g23' km1), v58, if_neg (fun z => z rfl), T151 h hr h.2.2.1 (show s.1.1 < 1999 by omega)]
      simp only [Option.bind_some, Option.toList_some, Option.toList_none, List.cons_append, List.nil_append]
      rw [e150_72]
      cases hl : labX t (tks t n) s s.2.2.2 with
      | some l =>
        have eP : pLin t (tks t n) s = .inl (tB (tks t n s.2.2.2) : Int) := by
          unfold pLin
          rw [if_neg k1, if_pos ⟨cL, c58⟩, hl]
        have nl : ¬ lbV s (some l) = -1 := by
          show ¬ ((s.1.2 l).2 : Int) = -1
          omega
        rw [eP, if_neg nl, T144 h]
        simp only [Option.bind_some, Option.toList_some, Option.toList_none, List.cons_append, List.nil_append]
        rw [e150_80, if_pos bl0]
        exact okc_s ⟨cfa_c (ccq_I (by omega)), c9, by omega⟩
      | none =>
        have eP : pLin t (tks t n) s = if tK (tks t n (s.2.2.2 + 2)) = 1 ∨ tK (tks t n (s.2.2.2 + 2)) = 0 then .inr (addL s) else pSta t (tks t n) (addL s) := by
          unfold pLin
          rw [if_neg k1, if_pos ⟨cL, c58⟩, hl]
        obtain ⟨L, hLe⟩ : ∃ L, L = s.1.1 := ⟨_, rfl⟩
        have r1 : gI σ 18 11 = (L : Int) := by rw [hLe]; exact hr.1.1
        have rM : gI σ 18 1 = (s.2.2.1.1 : Int) := hr.2.2.1
        have L1 : 2 * L < 4000 := by omega
        have L2 : 2 * L + 1 < 4000 := by omega
        have L3 : L < 100000 := by omega
        have L4 : 2 * L < 100000 := by omega
        have e11 : gI (sI σ 24 (2 * L) (s.2.2.2 : Int)) 18 11 = (L : Int) := by rw [gI_sI, if_neg (by omega), r1]
        have e1 : gI (sI σ 24 (2 * L) (s.2.2.2 : Int)) 18 1 = (s.2.2.1.1 : Int) := by rw [gI_sI, if_neg (by omega), rM]
        have e11' : gI (sI (sI σ 24 (2 * L) (s.2.2.2 : Int)) 24 (2 * L + 1) (s.2.2.1.1 : Int)) 18 11 = (L : Int) := by rw [gI_sI, if_neg (by omega), e11]
        rw [if_pos (show lbV s none = -1 from rfl), h.2.1, r1, w32_2 L3, if_pos (g24' L1), Int.toNat_natCast, e11, w32_2 L3, w32_s1 L4, if_pos (g24' L2), Int.toNat_natCast, e1, e11', w32_s1 L3, e150_123]
        obtain ⟨ρ, hρ⟩ : ∃ ρ, ρ = sI (sI (sI σ 24 (2 * L) (s.2.2.2 : Int)) 24 (2 * L + 1) (s.2.2.1.1 : Int)) 18 11 ((L + 1 : Nat) : Int) := ⟨_, rfl⟩
        rw [← hρ]
        have fi : ∀ k s', ¬ (k = 18 ∧ s' = 11) → ¬ (k = 24 ∧ (s' = 2 * L ∨ s' = 2 * L + 1)) → gI ρ k s' = gI σ k s' := fun k s' a b => by
          rw [hρ, gI_sI, if_neg (by omega), gI_sI, if_neg (by omega), gI_sI, if_neg (by omega)]
        have fl : ∀ k s', gL ρ k s' = gL σ k s' := fun k s' => by rw [hρ, gL_sI, gL_sI, gL_sI]
        have fr : ρ.2.2 = σ.2.2 := by rw [hρ]; rfl
        have f11 : gI ρ 18 11 = ((L + 1 : Nat) : Int) := by rw [hρ, gI_sI, if_pos ⟨rfl, rfl⟩]
        have f0 : gI ρ 24 (2 * L) = (s.2.2.2 : Int) := by rw [hρ, gI_sI, if_neg (by omega), gI_sI, if_neg (by omega), gI_sI, if_pos ⟨rfl, rfl⟩]
        have f1 : gI ρ 24 (2 * L + 1) = (s.2.2.1.1 : Int) := by rw [hρ, gI_sI, if_neg (by omega), gI_sI, if_pos ⟨rfl, rfl⟩]
        clear hρ
        rw [(fi 18 8 (by omega) (by omega)).trans h.2.1, show w32 ((s.2.2.2 : Int) + 2) = ((s.2.2.2 + 2 : Nat) : Int) from w32_a (a := s.2.2.2) (b := 2) (show s.2.2.2 + 2 < 100001 by omega)]
        have l2 : s.2.2.2 + 2 ≤ m := cG_lt (cG_8 h l1) (by rw [c58.1]; decide)
        have cf : cfa (sI ρ 18 8 ((s.2.2.2 + 2 : Nat) : Int)) σ := cfa_t (cfa_c (ccq_I (by omega))) ⟨fun k s' a b c => fi k s' (by omega) (by omega), fun k s' _ _ => fl k s', fr⟩
        have hg : cG (sI ρ 18 8 ((s.2.2.2 + 2 : Nat) : Int)) t n m (addL s).2.2.2 := cG_f h cf h8 l2 (by rw [gI_sI, if_neg (by omega), fi _ _ (by omega) (by omega), h.2.2.2])
        have hr2 : cRD m (sI ρ 18 8 ((s.2.2.2 + 2 : Nat) : Int)) (addL s) := by
          obtain ⟨⟨q1, q2⟩, ⟨q3, q4⟩, q5, q6⟩ := hr
          refine ⟨⟨?_, fun l hl => ?_⟩, ⟨?_, fun u hu => ?_⟩, ?_, fun i hi => ?_⟩
          · rw [gI_sI, if_neg (by omega), f11, hLe]
            rfl
          · have hl : l < L + 1 := by rw [hLe]; exact hl
            show gI (sI ρ 18 8 ((s.2.2.2 + 2 : Nat) : Int)) 24 (2 * l) = (((if l = s.1.1 then (s.2.2.2, s.2.2.1.1) else s.1.2 l) : Nat × Nat).1 : Int) ∧ gI (sI ρ 18 8 ((s.2.2.2 + 2 : Nat) : Int)) 24 (2 * l + 1) = (((if l = s.1.1 then (s.2.2.2, s.2.2.1.1) else s.1.2 l) : Nat × Nat).2 : Int) ∧ ((if l = s.1.1 then (s.2.2.2, s.2.2.1.1) else s.1.2 l) : Nat × Nat).1 ≤ m
            have ga : ∀ i, gI (sI ρ 18 8 ((s.2.2.2 + 2 : Nat) : Int)) 24 i = gI ρ 24 i := fun i => by rw [gI_sI, if_neg (by omega)]
            rw [ga, ga, ← hLe]
            by_cases cl : l = L
            · rw [if_pos cl, cl, f0, f1]
              exact ⟨rfl, rfl, h.2.2.1⟩
            · rw [if_neg cl, fi _ _ (by omega) (by omega), fi _ _ (by omega) (by omega)]
              exact q2 l (by omega)
          · rw [gI_sI, if_neg (by omega), fi _ _ (by omega) (by omega)]
            exact q3
          · rw [gI_sI, if_neg (by omega), fi _ _ (by omega) (by omega), gI_sI, if_neg (by omega), fi _ _ (by omega) (by omega)]
            exact q4 u hu
          · rw [gI_sI, if_neg (by omega), fi _ _ (by omega) (by omega)]
            exact q5
          · rw [gL_sI, fl]
            exact q6 i hi
        generalize sI ρ 18 8 ((s.2.2.2 + 2 : Nat) : Int) = ρ2 at *
        obtain ⟨g1, -⟩ := cG_tk hg l2
        have km2 : s.2.2.2 + 2 < 4001 := by omega
        have ga : gI ρ2 18 8 = ((s.2.2.2 + 2 : Nat) : Int) := hg.2.1
        rw [eP]
        by_cases j1 : tK (tks t n (s.2.2.2 + 2)) = 1
        · have k5 : kC (tks t n (s.2.2.2 + 2)) = 5 := by rw [kc_5']; exact j1
          rw [if_pos (Or.inl j1), e150_133, ga, if_pos (g20' km2), Int.toNat_natCast, g1, if_pos k5]
          exact okc_s ⟨cf, hr2, hg⟩
        · by_cases j0 : tK (tks t n (s.2.2.2 + 2)) = 0
          · have k5 : ¬ kC (tks t n (s.2.2.2 + 2)) = 5 := by rw [kc_5']; exact j1
            have k6 : kC (tks t n (s.2.2.2 + 2)) = 6 := by rw [kc_6']; exact j0
            rw [if_pos (Or.inr j0), e150_133, ga, if_pos (g20' km2), if_pos (g20' km2), Int.toNat_natCast, g1, if_neg k5, if_neg (fun z => z k6)]
            exact okc_s ⟨cf, hr2, hg⟩
          · rw [if_neg (show ¬ (tK (tks t n (s.2.2.2 + 2)) = 1 ∨ tK (tks t n (s.2.2.2 + 2)) = 0) from fun z => z.elim j1 j0)]
            exact A133 (s := addL s) hg hr2 ⟨hi.1, hi.2.1⟩ cf j1 j0
    · have pl := plain k1 (fun z => c58 z.2)
      by_cases j4 : tK (tks t n (s.2.2.2 + 1)) = 4
      · have k4 : kC (tks t n (s.2.2.2 + 1)) = 4 := by rw [kc_4']; exact j4
        have v58 : ¬ gL σ 23 (s.2.2.2 + 1) = iL 58 := fun z => c58 ⟨j4, by
          rw [b5 j4, ← sC58] at z
          exact sC_i _ (tks_s j4) _ (by decide) z⟩
        rw [if_neg (fun z => z k4), if_pos (g23' km1), if_pos v58]
        exact pl
      · have k4 : ¬ kC (tks t n (s.2.2.2 + 1)) = 4 := by rw [kc_4']; exact j4
        rw [if_pos k4]
        exact pl
  · rw [if_neg cL] at hy
    rw [if_pos hy]
    by_cases k1 : tK (tks t n s.2.2.2) = 1
    · have k5 : kC (tks t n s.2.2.2) = 5 := by rw [kc_5']; exact k1
      have eP : pLin t (tks t n) s = .inr s := by
        unfold pLin
        rw [if_pos k1]
      rw [eP, e150_133, h.2.1, if_pos (g20' km), Int.toNat_natCast, a1, if_pos k5]
      exact okc_s ⟨cfa_r σ, hr, h⟩
    · exact plain k1 (fun z => cL z.1)
end CL2
