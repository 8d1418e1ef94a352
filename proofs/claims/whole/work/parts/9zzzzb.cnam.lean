/-! ===== the class's reader: what begins with a name ===== -/
/-- what begins with a name -/
def pNmd (t : Nat → Int) (T : Nat → TK) (k : Nat) : Int ⊕ (SR × Nat) :=
  if nmP' t (T k) 51 then pIf t T (k + 1)
  else if nmP' t (T k) 52 then pGo t T (k + 1)
  else if nmP' t (T k) 53 then pGol t T (k + 1)
  else if nmP' t (T k) 54 then pCal t T (k + 1)
  else if nmP' t (T k) 17 then .inr (((149, 0, 0, 0, 0), (0, 0, 0), none), k + 1)
  else if nmP' t (T k) 55 then (bS (pNum T (iL (-1)) (k + 1)) fun k2 => .inr (((0, 0, 0, 0, 0), (1, tV (T (k + 1)), 0), none), k2))
  else if nmP' t (T k) 56 then pAtm t T True inferInstance 0 k
  else if nmP' t (T k) 57 then pAtm t T True inferInstance 1 k
  else if nmP' t (T k) 58 then pAtm t T False inferInstance 225 k
  else if nmP' t (T k) 59 then pAtm t T False inferInstance 241 k
  else .inl (tB (T k) : Int)
section CNA
variable {t : Nat → Int} {n i j k m l : Nat} {σ τ ρ υ : MS} {c d e o s w x y z a r op f im M C O R : Int} {v W Y V : B64} {T : TK}
theorem wdO_5 : wdO 5 = 0 := by decide
theorem wdO_6 : ¬ wdO 6 = 0 := by decide
theorem T156 (h : cG σ t n m k) (z : cZ0 σ) (hw : gL σ 18 14 = 0#64) : okc (MM 156 [mR (some 18)] σ) (some (mI (rVc (pNmd t (tks t n) k)))) (fun τ => oR (pNmd t (tks t n) k) (cE σ τ) (cST m σ τ)) := by
  obtain ⟨a1, a2, a3, a4, a5⟩ := cG_tk h h.2.2.1
  have km := cG_m h
  have m4 := h.1.2.2.1
  rw [M156, e156_0, h.2.1, if_pos (g20' km), Int.toNat_natCast, a1]
  by_cases k2 : tK (tks t n k) = 2
  · have k1 : kC (tks t n k) = 1 := by rw [kc_2']; exact k2
    have l1 := cG_lt h (by rw [k2]; decide)
    have km1 : k + 1 < 4001 := by omega
    have h1 : cG (sI σ 18 8 ((k + 1 : Nat) : Int)) t n m (k + 1) := cG_8 h l1
    have f1 : cqA (sI σ 18 8 ((k + 1 : Nat) : Int)) σ := cqA_8
    have w1 : gL (sI σ 18 8 ((k + 1 : Nat) : Int)) 18 14 = 0#64 := hw
    have z1 := cZ0_A z f1
    rw [if_pos k1, w32_s1 (show k < 100000 by omega)]
    generalize sI σ 18 8 ((k + 1 : Nat) : Int) = ρ at *
    have N := fun j (hj : j < 117) => T146 (j := j) h1 h.2.2.1 k2 hj
    unfold pNmd
    rw [N 51 (by decide)]
    simp only [Option.bind_some, Option.toList_some, Option.toList_none, List.cons_append, List.nil_append]
    rw [e156_37]
    by_cases b51 : nmP' t (tks t n k) 51
    · rw [b2_yes b51, if_neg n10, if_pos b51]
      obtain ⟨τ, e, p⟩ := T162 h1 z1
      rw [e]
      simp only [Option.bind_some, Option.toList_some, Option.toList_none, List.cons_append, List.nil_append]
      rw [e156_44, if_pos rVc_b]
      exact okc_s (oR_c p (ccq_A f1))
    · rw [b2_no b51, if_pos y00, if_neg b51, N 52 (by decide)]
      simp only [Option.bind_some, Option.toList_some, Option.toList_none, List.cons_append, List.nil_append]
      rw [e156_52]
      by_cases b52 : nmP' t (tks t n k) 52
      · rw [b2_yes b52, if_neg n10, if_pos b52]
        have z2 : gI (sL ρ 18 14 (wdR 5 0 0 0 0)) 18 18 = -1 := z1.2.2.1
        obtain ⟨τ, e, p⟩ := T159 (k := k + 1) (x := 32767) (cG_L h1) (h14 (σ := ρ) (v := wdR 5 0 0 0 0)) z2
        rw [wd_0 (b := 5), e]
        simp only [Option.bind_some, Option.toList_some, Option.toList_none, List.cons_append, List.nil_append]
        rw [e156_69, if_pos rVc_b]
        unfold pGo
        cases hp : pWh t (tks t n) (iL 32767) (k + 1) with
        | inl e =>
          rw [hp] at p
          exact okc_s (cE_c (ccq_t (ccq_L (by omega)) (ccq_A f1)) p)
        | inr u =>
          rw [hp] at p
          obtain ⟨u1, u2, u3, u4, u5⟩ := p
          refine okc_s (cST_W (cqW_t u1 (cqW_A (cqA_t cqA_L f1))) z h.2.2.2 u2 u3 ?_ rfl u4)
          rw [u5, fOp_w (by omega), if_pos wdO_5, wd_f]
      · rw [b2_no b52, if_pos y00, if_neg b52, N 53 (by decide)]
        simp only [Option.bind_some, Option.toList_some, Option.toList_none, List.cons_append, List.nil_append]
        rw [e156_77]
        by_cases b53 : nmP' t (tks t n k) 53
        · rw [b2_yes b53, if_neg n10, if_pos b53]
          have z2 : gI (sL ρ 18 14 (wdR 6 0 0 0 0)) 18 18 = -1 := z1.2.2.1
          obtain ⟨τ, e, p⟩ := T159 (k := k + 1) (x := 2147483647) (cG_L h1) (h14 (σ := ρ) (v := wdR 6 0 0 0 0)) z2
          rw [wd_0 (b := 6), e]
          simp only [Option.bind_some, Option.toList_some, Option.toList_none, List.cons_append, List.nil_append]
          rw [e156_93, if_pos rVc_b]
          unfold pGol
          cases hp : pWh t (tks t n) (iL 2147483647) (k + 1) with
          | inl e =>
            rw [hp] at p
            exact okc_s (cE_c (ccq_t (ccq_L (by omega)) (ccq_A f1)) p)
          | inr u =>
            rw [hp] at p
            obtain ⟨u1, u2, u3, u4, u5⟩ := p
            refine okc_s (cST_W (cqW_t u1 (cqW_A (cqA_t cqA_L f1))) z h.2.2.2 u2 u3 ?_ rfl u4)
            rw [u5, fOp_w (by omega), if_neg wdO_6, wd_i]
        · rw [b2_no b53, if_pos y00, if_neg b53, N 54 (by decide)]
          simp only [Option.bind_some, Option.toList_some, Option.toList_none, List.cons_append, List.nil_append]
          rw [e156_101]
          by_cases b54 : nmP' t (tks t n k) 54
          · rw [b2_yes b54, if_neg n10, if_pos b54]
            obtain ⟨τ, e, p⟩ := T158 h1 z1
            rw [e]
            simp only [Option.bind_some, Option.toList_some, Option.toList_none, List.cons_append, List.nil_append]
            rw [e156_108, if_pos rVc_b]
            exact okc_s (oR_c p (ccq_A f1))
          · rw [b2_no b54, if_pos y00, if_neg b54, N 17 (by decide)]
            simp only [Option.bind_some, Option.toList_some, Option.toList_none, List.cons_append, List.nil_append]
            rw [e156_116]
            by_cases b17 : nmP' t (tks t n k) 17
            · rw [b2_yes b17, if_neg n10, if_pos b17]
              exact okc_s (cST_A (cqA_t cqA_L f1) z h.2.2.2 h1.2.1 l1 (h14.trans wd_0) rfl)
            · rw [b2_no b17, if_pos y00, if_neg b17, N 55 (by decide)]
              simp only [Option.bind_some, Option.toList_some, Option.toList_none, List.cons_append, List.nil_append]
              rw [e156_135]
              by_cases b55 : nmP' t (tks t n k) 55
              · rw [b2_yes b55, if_neg n10, if_pos b55]
                obtain ⟨G, hG⟩ : ∃ G, G = gL ρ 23 (k + 1) := ⟨_, rfl⟩
                have gv : tK (tks t n (k + 1)) = 3 → G = tV (tks t n (k + 1)) := fun k3 => hG.trans ((cG_tk h1 l1).2.2.2.1 k3)
                have e8 : gI (sI ρ 18 17 1) 18 8 = ((k + 1 : Nat) : Int) := by rw [gI_sI, if_neg (by omega)]; exact h1.2.1
                rw [e8, if_pos (g23' km1), Int.toNat_natCast, gL_sI, ← hG]
                have fr : ccq (sL (sI ρ 18 17 1) 18 14 G) σ := ccq_t (ccq_L (by omega)) (ccq_t (ccq_I (by omega)) (ccq_A f1))
                have e9 : gI (sL (sI ρ 18 17 1) 18 14 G) 18 9 = -1 := by rw [gI_sL, gI_sI, if_neg (by omega)]; exact h1.2.2.2
                have e16 : gI (sL (sI ρ 18 17 1) 18 14 G) 18 16 = 0 := by rw [gI_sL, gI_sI, if_neg (by omega)]; exact z1.1
                have e17 : gI (sL (sI ρ 18 17 1) 18 14 G) 18 17 = 1 := by rw [gI_sL, gI_sI, if_pos ⟨rfl, rfl⟩]
                have e18 : gI (sL (sI ρ 18 17 1) 18 14 G) 18 18 = -1 := by rw [gI_sL, gI_sI, if_neg (by omega)]; exact z1.2.2.1
                have e14 : gL (sL (sI ρ 18 17 1) 18 14 G) 18 14 = G := h14
                have hg : cG (sL (sI ρ 18 17 1) 18 14 G) t n m (k + 1) := cG_q h fr ((gI_sL _ _ _ _ _ _).trans e8) l1 e9
                generalize sL (sI ρ 18 17 1) 18 14 G = ρ2 at *
                rw [T157 hg]
                simp only [Option.bind_some, Option.toList_some, Option.toList_none, List.cons_append, List.nil_append]
                cases hp : pNum (tks t n) (iL (-1)) (k + 1) with
                | inl e =>
                  have he : e = (tB (tks t n (k + 1)) : Int) := by
                    unfold pNum at hp
                    split at hp
                    · cases hp
                    · exact (Sum.inl.inj hp).symm
                  show okc (RR (lkB tb156) (B156_163, [some (mR (some 18)), some (mI (k : Int))], [mI 0], sI ρ2 18 9 e)) (some (mI 0)) _
                  rw [e156_163, if_pos bl0]
                  exact okc_s ⟨ccq_t (ccq_I (by omega)) fr, c9, by omega⟩
                | inr j2 =>
                  have ej : j2 = k + 2 := mo_num hp
                  subst ej
                  have k3 : tK (tks t n (k + 1)) = 3 := by
                    unfold pNum at hp
                    split at hp
                    · rename_i z; exact z.1
                    · cases hp
                  have l2 : k + 2 ≤ m := cG_lt hg (by rw [k3]; decide)
                  show okc (RR (lkB tb156) (B156_163, [some (mR (some 18)), some (mI (k : Int))], [mI 1], sI ρ2 18 8 ((k + 2 : Nat) : Int))) (some (mI 1)) _
                  rw [e156_163, if_pos bl1, ← gv k3]
                  refine okc_s ⟨ccq_t (ccq_I (by omega)) fr, ⟨h8, l2, ?_⟩, fun _ => ?_, fun y => absurd y n10, ?_, fun y => absurd rfl y, ?_, ?_⟩
                  · rw [gI_sI, if_neg (by omega), e9]
                  · rw [gL_sI, e14]
                  · rw [gI_sI, if_neg (by omega), e16]
                  · rw [gI_sI, if_neg (by omega), e17]
                  · rw [gI_sI, if_neg (by omega), e18]
                    rfl
              · rw [b2_no b55, if_pos y00, if_neg b55, N 56 (by decide)]
                simp only [Option.bind_some, Option.toList_some, Option.toList_none, List.cons_append, List.nil_append]
                rw [e156_171]
                by_cases b56 : nmP' t (tks t n k) 56
                · rw [b2_yes b56, if_neg n10, if_pos b56]
                  obtain ⟨τ, e, p⟩ := T177g (x := 0) (dT := inferInstance) h1 z1 w1 (by decide)
                  rw [e]
                  simp only [Option.bind_some, Option.toList_some, Option.toList_none, List.cons_append, List.nil_append]
                  rw [e156_180, if_pos rVc_b]
                  exact okc_s (oR_c p (ccq_A f1))
                · rw [b2_no b56, if_pos y00, if_neg b56, N 57 (by decide)]
                  simp only [Option.bind_some, Option.toList_some, Option.toList_none, List.cons_append, List.nil_append]
                  rw [e156_188]
                  by_cases b57 : nmP' t (tks t n k) 57
                  · rw [b2_yes b57, if_neg n10, if_pos b57]
                    obtain ⟨τ, e, p⟩ := T177g (x := 1) (dT := inferInstance) h1 z1 w1 (by decide)
                    rw [e]
                    simp only [Option.bind_some, Option.toList_some, Option.toList_none, List.cons_append, List.nil_append]
                    rw [e156_197, if_pos rVc_b]
                    exact okc_s (oR_c p (ccq_A f1))
                  · rw [b2_no b57, if_pos y00, if_neg b57, N 58 (by decide)]
                    simp only [Option.bind_some, Option.toList_some, Option.toList_none, List.cons_append, List.nil_append]
                    rw [e156_205]
                    by_cases b58 : nmP' t (tks t n k) 58
                    · rw [b2_yes b58, if_neg n10, if_pos b58]
                      obtain ⟨τ, e, p⟩ := T177n (x := 225) (dF := inferInstance) h1 z1 w1 (by decide)
                      rw [e]
                      simp only [Option.bind_some, Option.toList_some, Option.toList_none, List.cons_append, List.nil_append]
                      rw [e156_216, if_pos rVc_b]
                      exact okc_s (oR_c p (ccq_A f1))
                    · rw [b2_no b58, if_pos y00, if_neg b58, N 59 (by decide)]
                      simp only [Option.bind_some, Option.toList_some, Option.toList_none, List.cons_append, List.nil_append]
                      rw [e156_224]
                      by_cases b59 : nmP' t (tks t n k) 59
                      · rw [b2_yes b59, if_neg n10, if_pos b59]
                        obtain ⟨τ, e, p⟩ := T177n (x := 241) (dF := inferInstance) h1 z1 w1 (by decide)
                        rw [e]
                        simp only [Option.bind_some, Option.toList_some, Option.toList_none, List.cons_append, List.nil_append]
                        rw [e156_235, if_pos rVc_b]
                        exact okc_s (oR_c p (ccq_A f1))
                      · have h2 : cG (sI ρ 18 8 (k : Int)) t n m k := cG_8 h1 h.2.2.1
                        rw [b2_no b59, if_pos y00, if_neg b59, T144 h2]
                        simp only [Option.bind_some, Option.toList_some, Option.toList_none, List.cons_append, List.nil_append]
                        rw [e156_245, if_pos bl0]
                        exact okc_s (cE_m h2 (ccq_A (cqA_t cqA_8 f1)))
  · have k1 : ¬ kC (tks t n k) = 1 := by rw [kc_2']; exact k2
    have nn : ∀ j, ¬ nmP' t (tks t n k) j := fun j z => k2 (nm_k z)
    unfold pNmd
    rw [if_neg k1, T144 h, if_neg (nn 51), if_neg (nn 52), if_neg (nn 53), if_neg (nn 54), if_neg (nn 17), if_neg (nn 55), if_neg (nn 56), if_neg (nn 57), if_neg (nn 58), if_neg (nn 59)]
    simp only [Option.bind_some, Option.toList_some, Option.toList_none, List.cons_append, List.nil_append]
    rw [e156_19, if_pos bl0]
    exact okc_s (cE_m h (ccq_r _))
end CNA
