/-! ===== the class's reader: what stands behind REG = ===== -/
section CTA
variable {t : Nat → Int} {n i j k m l : Nat} {σ τ ρ υ : MS} {c d e o s w x y z a r op f im : Int} {v W Y : B64} {T : TK}
theorem rVc_b {α : Type} {q : Int ⊕ α} : bl (rVc q) := by
  cases q with
  | inl e => exact bl0
  | inr e => exact bl1
theorem orT_m : orT t T = (-1, 0) ∨ orT t T ∈ [((212, 16) : Int × Int), (212, 32), (212, 64), (220, 16), (220, 32), (220, 64), (215, 16), (215, 32), (215, 64)] := by
  unfold orT
  split
  · exact Or.inr (by decide)
  · split
    · exact Or.inr (by decide)
    · split
      · exact Or.inr (by decide)
      · split
        · exact Or.inr (by decide)
        · split
          · exact Or.inr (by decide)
          · split
            · exact Or.inr (by decide)
            · split
              · exact Or.inr (by decide)
              · split
                · exact Or.inr (by decide)
                · split
                  · exact Or.inr (by decide)
                  · exact Or.inl rfl
theorem orT_l : ∀ p ∈ [((212, 16) : Int × Int), (212, 32), (212, 64), (220, 16), (220, 32), (220, 64), (215, 16), (215, 32), (215, 64)], iAnd (iOr (iShl p.2 8) p.1) 255 = p.1 ∧ lI (iL (iShr (iOr (iShl p.2 8) p.1) 8)) = p.2 ∧ 0 ≤ iOr (iShl p.2 8) p.1 ∧ 0 ≤ p.1 ∧ p.1 < 256 := by decide
theorem orT_f (h : ¬ (orT t T).1 < 0) : iAnd (orC t T) 255 = (orT t T).1 ∧ lI (iL (iShr (orC t T) 8)) = (orT t T).2 ∧ 0 ≤ orC t T ∧ 0 ≤ (orT t T).1 ∧ (orT t T).1 < 256 := by
  unfold orC
  rw [if_neg h]
  rcases orT_m (t := t) (T := T) with e | e
  · rw [e] at h
    exact absurd (by decide) h
  · exact orT_l _ e
theorem wd_m : iL (iOr (iOr 24 (iShl r 8)) 4096) = wdR 24 r 1 0 0 := by
  rw [iL_or iOr_in (by omega), wd_1 (by omega), show iL 4096 = iL (iShl 1 12) by decide, wd_s]
theorem ld_o : ∀ z ∈ [(112 : Int), 104, 96, 120, 144, 136, 128], iOr 1 z = iOr (if z < 128 then 97 else 129) (iAnd z 24) := by decide
theorem szB_m (h : szB x z) : z ∈ [(112 : Int), 104, 96, 120, 144, 136, 128] := by
  rcases h with h | h | h | h | h
  · rw [h]; decide
  · rw [h]; decide
  · rw [h]; decide
  · rw [h]; decide
  · rcases h.2 with h | h | h <;> rw [h] <;> decide
theorem szB_i (h : szB x z) : -2147483648 ≤ z ∧ z < 2147483648 := by
  have := szB_m h
  unfold szB at h
  omega
/-- what stands behind REG = -/
theorem T168 (h : cG σ t n m k) (z : cZ0 σ) (hr : isR r) (hw : gL σ 18 14 = wdR (bOf r) (iAnd r 15) 0 0 0) : okc (MM 168 [mR (some 18), mI r] σ) (some (mI (rVc (pVal t (tks t n) r k)))) (fun τ => oR (pVal t (tks t n) r k) (cE σ τ) (cST m σ τ)) := by
  obtain ⟨a1, a2, a3, a4, a5⟩ := cG_tk h h.2.2.1
  have km := cG_m h
  have m4 := h.1.2.2.1
  obtain ⟨X, hX⟩ : ∃ X : Int, X = if 16 ≤ r then 0 else 1 := ⟨_, rfl⟩
  have s11 : MM 168 [mR (some 18), mI r] σ = RR (lkB tb168) (B168_11, [some (mR (some 18)), some (mI r), none, none], [mI X], σ) := by
    rw [M168, e168_0, hX]
    by_cases c : 16 ≤ r
    · rw [if_pos c, if_pos c]
    · rw [if_neg c, if_neg c]
  rw [s11, e168_11, T149 h]
  simp only [Option.bind_some, Option.toList_some, Option.toList_none, List.cons_append, List.nil_append]
  rw [e168_16]
  unfold pVal
  have rr := rgR_r (t := t) (X := tks t n k)
  by_cases c0 : 0 ≤ rgR t (tks t n k)
  · rw [if_neg (show ¬ rgR t (tks t n k) = -1 by omega), if_pos c0, hw, wd_o bOf_i (by omega)]
    obtain ⟨τ, e, p⟩ := T161 (k := k) (cG_L h) (show 0 ≤ r ∧ r ≤ 26 by omega) (h14 (σ := σ) (v := wdR (iOr (bOf r) 176) (iAnd r 15) 0 0 0)) iOr_in
    rw [e]
    simp only [Option.bind_some, Option.toList_some, Option.toList_none, List.cons_append, List.nil_append]
    rw [e168_37, if_pos rVc_b]
    cases hp : pRgt t (tks t n) (wOf r) k with
    | inl e =>
      rw [hp] at p
      exact okc_s (cE_c (ccq_L (by omega)) p)
    | inr q =>
      rw [hp] at p
      obtain ⟨p1, p2, p3, p4⟩ := p
      exact okc_s (cST_A (cqA_t p1 cqA_L) z h.2.2.2 p2 p3 (by rw [p4, cas_b.2]) rfl)
  · rw [if_pos (show rgR t (tks t n k) = -1 by omega), if_neg c0, h.2.1, if_pos (g20' km), if_pos (g20' km), Int.toNat_natCast, a1]
    by_cases k3 : tK (tks t n k) = 3
    · have s64 : okc (RR (lkB tb168) (B168_64, [some (mR (some 18)), some (mI r), some (mI X), none], [], σ)) (some (mI (rVc (pPln t (tks t n) r 0 k)))) (fun τ => oR (pPln t (tks t n) r 0 k) (cE σ τ) (cST m σ τ)) := by
        obtain ⟨τ, e, p⟩ := T171 h z hr (Or.inl rfl) hw
        rw [e168_64, e]
        simp only [Option.bind_some, Option.toList_some, Option.toList_none, List.cons_append, List.nil_append]
        rw [e168_70, if_pos rVc_b]
        exact okc_s p
      rw [if_pos k3]
      by_cases s0 : tkS (tks t n k) = 0
      · have c2 : kC (tks t n k) = 2 := by rw [kc_n']; exact ⟨k3, s0⟩
        rw [if_pos c2]
        exact s64
      · have c3 : kC (tks t n k) = 3 := by rw [kc_h']; exact ⟨k3, s0⟩
        rw [if_neg (show ¬ kC (tks t n k) = 2 by omega), if_neg (show ¬ ¬ kC (tks t n k) = 3 from fun z => z c3)]
        exact s64
    · have c2 : ¬ kC (tks t n k) = 2 := by rw [kc_n']; exact fun z => k3 z.1
      have c3 : ¬ kC (tks t n k) = 3 := by rw [kc_h']; exact fun z => k3 z.1
      rw [if_neg c2, if_pos c3, if_neg k3, T147 (s := 45) h (by decide) (by decide)]
      simp only [Option.bind_some, Option.toList_some, Option.toList_none, List.cons_append, List.nil_append]
      rw [e168_77]
      by_cases cs : sgn (tks t n) 45 k
      · have l1 := cG_lt h (by rw [cs.1]; decide)
        have h1 : cG (sI σ 18 8 ((k + 1 : Nat) : Int)) t n m (k + 1) := cG_8 h l1
        have f1 : cqA (sI σ 18 8 ((k + 1 : Nat) : Int)) σ := cqA_8
        have w1 : gL (sI σ 18 8 ((k + 1 : Nat) : Int)) 18 14 = wdR (bOf r) (iAnd r 15) 0 0 0 := hw
        have z1 := cZ0_A z f1
        rw [b2_yes cs, if_neg n10, if_pos cs, h.2.1, w32_s1 (show k < 100000 by omega)]
        generalize sI σ 18 8 ((k + 1 : Nat) : Int) = ρ1 at *
        rw [T149 h1]
        simp only [Option.bind_some, Option.toList_some, Option.toList_none, List.cons_append, List.nil_append]
        rw [e168_94]
        by_cases r1 : rgR t (tks t n (k + 1)) = -1
        · rw [if_neg (fun z => z r1)]
          have ev : (if tK (tks t n (k + 1)) = 2 then (if ¬ rgR t (tks t n (k + 1)) = r then .inl (tB (tks t n (k + 1)) : Int) else .inr ((((iOr 128 (bOf r), iAnd r 15, 0, 0, 0), (0, 0, 0), none), k + 2) : SR × Nat)) else pPln t (tks t n) r 1 (k + 1)) = pPln t (tks t n) r 1 (k + 1) := by
            by_cases k2 : tK (tks t n (k + 1)) = 2
            · rw [if_pos k2, if_pos (show ¬ rgR t (tks t n (k + 1)) = r by omega)]
              unfold pPln
              rw [if_pos (show ¬ (tK (tks t n (k + 1)) = 3 ∧ tkS (tks t n (k + 1)) = 0) from fun z => by rw [k2] at z; cases z.1)]
            · rw [if_neg k2]
          rw [ev]
          obtain ⟨τ, e, p⟩ := T171 h1 z1 hr (Or.inr rfl) w1
          rw [e]
          simp only [Option.bind_some, Option.toList_some, Option.toList_none, List.cons_append, List.nil_append]
          rw [e168_104, if_pos rVc_b]
          refine okc_s ?_
          cases hp : pPln t (tks t n) r 1 (k + 1) with
          | inl e =>
            rw [hp] at p
            exact cE_c (ccq_A f1) p
          | inr q =>
            rw [hp] at p
            obtain ⟨p1, p2⟩ := p
            exact ⟨ccq_t p1 (ccq_A f1), p2⟩
        · have k2 := rgR_n r1
          have l2 := cG_lt h1 (by rw [k2]; decide)
          rw [if_pos r1, if_pos k2, T169 (cG_L h1) hr.1]
          by_cases re : rgR t (tks t n (k + 1)) = r
          · rw [if_pos re, if_neg (show ¬ ¬ rgR t (tks t n (k + 1)) = r from fun z => z re)]
            simp only [Option.bind_some, Option.toList_some, Option.toList_none, List.cons_append, List.nil_append]
            rw [e168_122, if_pos bl1]
            refine okc_s (cST_A (cqA_t cqA_8 (cqA_t cqA_L f1)) z h.2.2.2 h8 l2 ?_ rfl)
            rw [gL_sI, h14, w1, wd_o bOf_i (by omega), iOr_c]
          · rw [if_neg re, if_pos (show ¬ rgR t (tks t n (k + 1)) = r from re)]
            simp only [Option.bind_some, Option.toList_some, Option.toList_none, List.cons_append, List.nil_append]
            rw [e168_122, if_pos bl0]
            exact okc_s (cE_m h1 (ccq_t (ccq_L (by omega)) (ccq_A f1)))
      · rw [b2_no cs, if_pos y00, if_neg cs, T147 (s := 40) h (by decide) (by decide)]
        simp only [Option.bind_some, Option.toList_some, Option.toList_none, List.cons_append, List.nil_append]
        rw [e168_129]
        by_cases cp : sgn (tks t n) 40 k
        · have l1 := cG_lt h (by rw [cp.1]; decide)
          have h1 : cG (sI σ 18 8 ((k + 1 : Nat) : Int)) t n m (k + 1) := cG_8 h l1
          have f1 : cqA (sI σ 18 8 ((k + 1 : Nat) : Int)) σ := cqA_8
          have w1 : gL (sI σ 18 8 ((k + 1 : Nat) : Int)) 18 14 = wdR (bOf r) (iAnd r 15) 0 0 0 := hw
          have z1 := cZ0_A z f1
          rw [b2_yes cp, if_neg n10, if_pos cp, h.2.1, w32_s1 (show k < 100000 by omega)]
          generalize sI σ 18 8 ((k + 1 : Nat) : Int) = ρ1 at *
          obtain ⟨τ, e, p⟩ := T172 h1 z1 hr w1
          rw [e]
          simp only [Option.bind_some, Option.toList_some, Option.toList_none, List.cons_append, List.nil_append]
          rw [e168_147, if_pos rVc_b]
          show okc _ (some (mI (rVc (pCas t (tks t n) r (k + 1))))) (fun τ => oR (pCas t (tks t n) r (k + 1)) (cE σ τ) (cST m σ τ))
          refine okc_s ?_
          cases hp : pCas t (tks t n) r (k + 1) with
          | inl e =>
            rw [hp] at p
            exact cE_c (ccq_A f1) p
          | inr q =>
            rw [hp] at p
            obtain ⟨p1, p2⟩ := p
            exact ⟨ccq_t p1 (ccq_A f1), p2⟩
        · rw [b2_no cp, if_pos y00, if_neg cp]
          by_cases r16 : r < 16
          · have X1 : X = 1 := by rw [hX, if_neg (show ¬ 16 ≤ r by omega)]
            have rA : iAnd r 15 = r := and15' (show 0 ≤ r ∧ r ≤ 10 by omega)
            rw [if_neg (show ¬ X = 0 by omega), T147 (s := 42) h (by decide) (by decide)]
            simp only [Option.bind_some, Option.toList_some, Option.toList_none, List.cons_append, List.nil_append]
            rw [e168_158]
            by_cases cm : sgn (tks t n) 42 k
            · rw [b2_yes cm, if_neg n10, if_pos (show r < 16 ∧ sgn (tks t n) 42 k from ⟨r16, cm⟩), wd_1 (show -2147483648 ≤ (1 : Int) ∧ (1 : Int) < 2147483648 by omega)]
              obtain ⟨τ, e, p⟩ := T173 (k := k) (a := 12) (x := 1) (cG_L h) (h14 (σ := σ) (v := wdR 1 r 0 0 0))
              rw [e]
              simp only [Option.bind_some, Option.toList_some, Option.toList_none, List.cons_append, List.nil_append]
              rw [e168_179, if_pos rVc_b]
              cases hp : pPtr t (tks t n) 1 k with
              | inl e =>
                rw [hp] at p
                exact okc_s (cE_c (ccq_L (by omega)) p)
              | inr q =>
                rw [hp] at p
                obtain ⟨p1, p2, p3, p4, p5, p6⟩ := p
                refine okc_s (cST_A (cqA_t p1 cqA_L) z h.2.2.2 p2 p3 ?_ rfl)
                rw [p4, wd_o (by omega) (szB_i p5), wd_s, wd_f, ld_o _ (szB_m p5), rA]
            · rw [b2_no cm, if_pos y00, if_neg (show ¬ (r < 16 ∧ sgn (tks t n) 42 k) from fun z => cm z.2), e168_180, if_neg (show ¬ X = 0 by omega), T145 (j := 61) h (by decide)]
              simp only [Option.bind_some, Option.toList_some, Option.toList_none, List.cons_append, List.nil_append]
              rw [e168_191]
              by_cases cn : nmP' t (tks t n k) 61
              · have k2 := nm_k cn
                have l1 := cG_lt h (by rw [k2]; decide)
                have km1 : k + 1 < 4001 := by omega
                obtain ⟨G, hG⟩ : ∃ G, G = gL σ 23 (k + 1) := ⟨_, rfl⟩
                have gv : tK (tks t n (k + 1)) = 3 → G = tV (tks t n (k + 1)) := fun k3 => hG.trans ((cG_tk h l1).2.2.2.1 k3)
                rw [b2_yes cn, if_neg n10, if_pos (show r < 16 ∧ nmP' t (tks t n k) 61 from ⟨r16, cn⟩), h.2.1, w32_s1 (show k < 100000 by omega), h8, if_pos (g23' km1), Int.toNat_natCast, gL_sI, ← hG, wd_m, wd_i]
                obtain ⟨ρ, hρ⟩ : ∃ ρ, ρ = sI (sL (sI σ 18 8 ((k + 1 : Nat) : Int)) 18 14 (wdR 24 r 1 0 (lI G))) 18 16 1 := ⟨_, rfl⟩
                have fr : ccq ρ σ := by rw [hρ]; exact ccq_t (ccq_I (by omega)) (ccq_t (ccq_L (by omega)) (ccq_I (by omega)))
                have e8 : gI ρ 18 8 = ((k + 1 : Nat) : Int) := by rw [hρ, gI_sI, if_neg (by omega), gI_sL, h8]
                have e9 : gI ρ 18 9 = -1 := by rw [hρ, gI_sI, if_neg (by omega), gI_sL, gI_sI, if_neg (by omega)]; exact h.2.2.2
                have e14 : gL ρ 18 14 = wdR 24 r 1 0 (lI G) := by rw [hρ, gL_sI, h14]
                have e15 : gL ρ 18 15 = 0#64 := by rw [hρ, gL_sI, gL_sL, if_neg (by omega), gL_sI]; exact z.2.2.2
                have e16 : gI ρ 18 16 = 1 := by rw [hρ, gI_sI, if_pos ⟨rfl, rfl⟩]
                have e17 : gI ρ 18 17 = gI σ 18 17 := by rw [hρ, gI_sI, if_neg (by omega), gI_sL, gI_sI, if_neg (by omega)]
                have e18 : gI ρ 18 18 = -1 := by rw [hρ, gI_sI, if_neg (by omega), gI_sL, gI_sI, if_neg (by omega)]; exact z.2.2.1
                have hg : cG ρ t n m (k + 1) := cG_q h fr e8 l1 e9
                rw [← hρ, e168_238, T157 hg]
                clear hρ
                simp only [Option.bind_some, Option.toList_some, Option.toList_none, List.cons_append, List.nil_append]
                cases hp : pNum (tks t n) (iL 7) (k + 1) with
                | inl e =>
                  have he : e = (tB (tks t n (k + 1)) : Int) := by
                    unfold pNum at hp
                    split at hp
                    · cases hp
                    · exact (Sum.inl.inj hp).symm
                  show okc (RR (lkB tb168) (B168_245, [some (mR (some 18)), some (mI r), some (mI X), none], [mI 0], sI ρ 18 9 e)) (some (mI 0)) _
                  rw [e168_245, if_pos bl0]
                  exact okc_s ⟨ccq_t (ccq_I (by omega)) fr, c9, by omega⟩
                | inr j2 =>
                  have ej : j2 = k + 2 := mo_num hp
                  subst ej
                  have k3 : tK (tks t n (k + 1)) = 3 := by
                    unfold pNum at hp
                    split at hp
                    · rename_i z; exact z.1
                    · cases hp
                  have l2 : k + 2 ≤ m := cG_lt hg (by rw [k3]; decide)
                  show okc (RR (lkB tb168) (B168_245, [some (mR (some 18)), some (mI r), some (mI X), none], [mI 1], sI ρ 18 8 ((k + 2 : Nat) : Int))) (some (mI 1)) _
                  rw [e168_245, if_pos bl1, ← gv k3]
                  refine okc_s (cST_s (ccq_t (ccq_I (by omega)) fr) z h8 l2 ?_ ?_ rfl ?_ ?_ (fun _ => ?_) ?_)
                  · rw [gI_sI, if_neg (by omega), e9]
                  · rw [gL_sI, e14, rA]
                  · rw [gI_sI, if_neg (by omega), e17]
                  · rw [gI_sI, if_neg (by omega), e16]
                  · rw [gL_sI, e15]
                    rfl
                  · rw [gI_sI, if_neg (by omega), e18]
                    rfl
              · rw [b2_no cn, if_pos y00, if_neg (show ¬ (r < 16 ∧ nmP' t (tks t n k) 61) from fun z => cn z.2), e168_246, if_neg (show ¬ X = 0 by omega), T170 h]
                simp only [Option.bind_some, Option.toList_some, Option.toList_none, List.cons_append, List.nil_append]
                rw [e168_254, e168_258]
                by_cases co : (orT t (tks t n k)).1 < 0
                · have oc : orC t (tks t n k) = -1 := if_pos co
                  rw [oc, if_neg (show ¬ (0 : Int) ≤ -1 by decide), if_pos (show (orT t (tks t n k)).1 < 0 ∨ ¬ r < 16 from Or.inl co), T144 h]
                  simp only [Option.bind_some, Option.toList_some, Option.toList_none, List.cons_append, List.nil_append]
                  rw [e168_267, if_pos bl0]
                  exact okc_s (cE_m h (ccq_r _))
                · obtain ⟨o1, o2, o3, o4, o5⟩ := orT_f co
                  have k2 : tK (tks t n k) = 2 := orT_k (t := t) (by omega)
                  have l1 := cG_lt h (by rw [k2]; decide)
                  rw [if_pos o3, if_neg (show ¬ ((orT t (tks t n k)).1 < 0 ∨ ¬ r < 16) by omega), h.2.1, w32_s1 (show k < 100000 by omega), o1, wd_1 (show -2147483648 ≤ (orT t (tks t n k)).1 ∧ (orT t (tks t n k)).1 < 2147483648 by omega), wd_i, o2, T169 (k := k + 1) (cG_L (cG_8 h l1)) hr.1]
                  by_cases re : rgR t (tks t n (k + 1)) = r
                  · have k3 := rgR_n (t := t) (X := tks t n (k + 1)) (by omega)
                    have l2 : k + 2 ≤ m := cG_lt (cG_8 h l1) (by rw [k3]; decide)
                    rw [if_pos re, if_neg (show ¬ ¬ rgR t (tks t n (k + 1)) = r from fun z => z re)]
                    simp only [Option.bind_some, Option.toList_some, Option.toList_none, List.cons_append, List.nil_append]
                    rw [e168_307, if_pos bl1]
                    refine okc_s (cST_A (cqA_t cqA_8 (cqA_t cqA_L cqA_8)) z h.2.2.2 h8 l2 ?_ rfl)
                    rw [gL_sI, h14, rA]
                  · rw [if_neg re, if_pos (show ¬ rgR t (tks t n (k + 1)) = r from re)]
                    simp only [Option.bind_some, Option.toList_some, Option.toList_none, List.cons_append, List.nil_append]
                    rw [e168_307, if_pos bl0]
                    exact okc_s (cE_m (k := k + 1) (cG_8 h l1) (ccq_t (ccq_L (by omega)) (ccq_I (by omega))))
          · have X0 : X = 0 := by rw [hX, if_pos (show 16 ≤ r by omega)]
            rw [if_pos X0, e168_180, if_pos X0, e168_246, if_pos X0, e168_258, if_neg (show ¬ (0 : Int) ≤ -1 by decide), if_neg (show ¬ (r < 16 ∧ sgn (tks t n) 42 k) from fun z => r16 z.1), if_neg (show ¬ (r < 16 ∧ nmP' t (tks t n k) 61) from fun z => r16 z.1), if_pos (show (orT t (tks t n k)).1 < 0 ∨ ¬ r < 16 from Or.inr r16), T144 h]
            simp only [Option.bind_some, Option.toList_some, Option.toList_none, List.cons_append, List.nil_append]
            rw [e168_267, if_pos bl0]
            exact okc_s (cE_m h (ccq_r _))
end CTA
