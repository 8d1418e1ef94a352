/-! ===== the class's reader: if, call, what begins with a name ===== -/
section CIF
variable {t : Nat → Int} {n i j k m l : Nat} {σ τ ρ υ : MS} {c d e o s w x y z a r op f im M C O R : Int} {v W Y V : B64} {T : TK}
/-- a word with its WHERE -/
theorem cST_W {q : SR × Nat} (f : cqW τ σ) (z : cZ0 σ) (e9 : gI σ 18 9 = -1) (e8 : gI τ 18 8 = (q.2 : Int)) (lm : q.2 ≤ m) (w : gL τ 18 14 = wdR q.1.1.1 q.1.1.2.1 q.1.1.2.2.1 q.1.1.2.2.2.1 q.1.1.2.2.2.2) (an : q.1.2.1 = (0, 0, 0)) (wh : gI τ 18 18 = whI q.1.2.2) : cST m σ τ q := by
  refine cST_s (ccq_W f) z e8 lm ((f.1 _ _ (by omega)).trans e9) w (by rw [an]) (f.1 _ _ (by omega)) ?_ ?_ wh
  · rw [an, f.1 _ _ (by omega), z.1]
  · rw [an]
    exact fun y => absurd rfl y
theorem cST_q {q : SR × Nat} (h : cST m ρ τ q) (f : ccq ρ σ) : cST m σ τ q := ⟨ccq_t h.1 f, h.2⟩
theorem oR_c {p : Int ⊕ (SR × Nat)} (h : oR p (cE ρ τ) (cST m ρ τ)) (f : ccq ρ σ) : oR p (cE σ τ) (cST m σ τ) := by
  cases p with
  | inl e => exact cE_c f h
  | inr q => exact cST_q h f
/-- call -/
theorem T158 (h : cG σ t n m k) (z : cZ0 σ) : okc (MM 158 [mR (some 18)] σ) (some (mI (rVc (pCal t (tks t n) k)))) (fun τ => oR (pCal t (tks t n) k) (cE σ τ) (cST m σ τ)) := by
  have km := cG_m h
  have h1 : cG (sL σ 18 14 (iL 133)) t n m k := cG_L h
  have f1 : cqA (sL σ 18 14 (iL 133)) σ := cqA_L
  have w1 : gL (sL σ 18 14 (iL 133)) 18 14 = wdR 133 0 0 0 0 := h14.trans wd_0
  rw [M158, e158_0]
  generalize sL σ 18 14 (iL 133) = ρ at *
  obtain ⟨a1, a2, a3, a4, a5⟩ := cG_tk h1 h1.2.2.1
  rw [h1.2.1, if_pos (g20' km), Int.toNat_natCast, a1]
  -- a WHERE
  have s67 : ¬ tK (tks t n k) = 3 → okc (RR (lkB tb158) (B158_67, [some (mR (some 18))], [], ρ)) (some (mI (rVc (pCal t (tks t n) k)))) (fun τ => oR (pCal t (tks t n) k) (cE σ τ) (cST m σ τ)) := fun k3 => by
    have e4 : wdR 133 0 0 0 0 ||| iL 4096 = wdR 133 0 1 0 0 := by rw [show iL 4096 = iL (iShl 1 12) by decide, wd_s]
    have z2 : gI (sL ρ 18 14 (wdR 133 0 1 0 0)) 18 18 = -1 := (f1.1 _ _ (by omega)).trans z.2.2.1
    obtain ⟨τ, e, p⟩ := T159 (k := k) (x := 2147483647) (cG_L h1) (h14 (σ := ρ) (v := wdR 133 0 1 0 0)) z2
    rw [e158_67, w1, e4, e]
    simp only [Option.bind_some, Option.toList_some, Option.toList_none, List.cons_append, List.nil_append]
    rw [e158_85, if_pos rVc_b]
    unfold pCal
    rw [if_neg k3]
    cases hp : pWh t (tks t n) (iL 2147483647) k with
    | inl e =>
      rw [hp] at p
      exact okc_s (cE_c (ccq_t (ccq_L (by omega)) (ccq_A f1)) p)
    | inr u =>
      rw [hp] at p
      obtain ⟨u1, u2, u3, u4, u5⟩ := p
      refine okc_s (cST_W (cqW_t u1 (cqW_A (cqA_t cqA_L f1))) z h.2.2.2 u2 u3 ?_ rfl u4)
      rw [u5, fOp_w (by omega), if_neg (show ¬ wdO 133 = 0 by decide), wd_i]
  by_cases c1 : kC (tks t n k) = 1
  · have k2 : tK (tks t n k) = 2 := by rw [← kc_2']; exact c1
    rw [if_pos c1]
    exact s67 (by rw [k2]; decide)
  · have k2 : ¬ tK (tks t n k) = 2 := by rw [← kc_2']; exact c1
    rw [if_neg c1, T147 (s := 43) h1 (by decide) (by decide)]
    simp only [Option.bind_some, Option.toList_some, Option.toList_none, List.cons_append, List.nil_append]
    rw [e158_26]
    by_cases cp : sgn (tks t n) 43 k
    · rw [b2_yes cp, if_pos n10]
      exact s67 (by rw [cp.1]; decide)
    · rw [b2_no cp, if_neg (fun z => z y00), T147 (s := 45) h1 (by decide) (by decide)]
      simp only [Option.bind_some, Option.toList_some, Option.toList_none, List.cons_append, List.nil_append]
      rw [e158_35]
      by_cases cs : sgn (tks t n) 45 k
      · rw [b2_yes cs, if_pos n10]
        exact s67 (by rw [cs.1]; decide)
      · obtain ⟨G, hG⟩ : ∃ G, G = gL ρ 23 k := ⟨_, rfl⟩
        have gv : tK (tks t n k) = 3 → G = tV (tks t n k) := fun k3 => hG.trans (a4 k3)
        rw [b2_no cs, if_neg (fun z => z y00), h1.2.1, if_pos (g23' km), Int.toNat_natCast, ← hG, w1, wd_i, T157 (k := k) (cG_L h1)]
        have eP : pCal t (tks t n) k = bS (pNum (tks t n) (iL 2147483647) k) fun k2 => .inr (((133, 0, 0, 0, lI (tV (tks t n k))), (0, 0, 0), none), k2) := by
          unfold pCal
          by_cases k3 : tK (tks t n k) = 3
          · rw [if_pos k3]
          · rw [if_neg k3]
            unfold pWh pNum
            rw [if_neg k2, if_neg (show ¬ (sgn (tks t n) 45 k ∨ sgn (tks t n) 43 k) from fun z => z.elim cs cp), if_neg (show ¬ (tK (tks t n k) = 3 ∧ tkS (tks t n k) = 0 ∧ ¬ iL 2147483647 < tV (tks t n k)) from fun z => k3 z.1)]
            rfl
        rw [eP]
        simp only [Option.bind_some, Option.toList_some, Option.toList_none, List.cons_append, List.nil_append]
        cases hp : pNum (tks t n) (iL 2147483647) k with
        | inl e =>
          have he : e = (tB (tks t n k) : Int) := by
            unfold pNum at hp
            split at hp
            · cases hp
            · exact (Sum.inl.inj hp).symm
          show okc (RR (lkB tb158) (B158_66, [some (mR (some 18))], [mI 0], sI (sL ρ 18 14 (wdR 133 0 0 0 (lI G))) 18 9 e)) (some (mI 0)) _
          rw [e158_66, if_pos bl0]
          exact okc_s ⟨ccq_t (ccq_I (by omega)) (ccq_t (ccq_L (by omega)) (ccq_A f1)), c9, by omega⟩
        | inr j2 =>
          have ej : j2 = k + 1 := mo_num hp
          have k3 : tK (tks t n k) = 3 := by
            unfold pNum at hp
            split at hp
            · rename_i z; exact z.1
            · cases hp
          have lt := cG_lt h1 (by rw [k3]; decide)
          rw [← gv k3]
          show okc (RR (lkB tb158) (B158_66, [some (mR (some 18))], [mI 1], sI (sL ρ 18 14 (wdR 133 0 0 0 (lI G))) 18 8 (j2 : Int))) (some (mI 1)) _
          rw [e158_66, if_pos bl1]
          exact okc_s (cST_A (cqA_t cqA_8 (cqA_t cqA_L f1)) z h.2.2.2 h8 (by show j2 ≤ m; omega) (by rw [gL_sI, h14]) rfl)
theorem pSid_8 {q : (Int × Int × B64) × Nat} (h : pSid t (tks t n) w j = .inr q) : q.1.1 = 8 ∨ q.1.1 = 0 := by
  unfold pSid at h
  split at h
  · obtain ⟨p, _, e⟩ := bS_inr h
    rw [← Sum.inr.inj e]
    exact Or.inl rfl
  · obtain ⟨p, _, e⟩ := bS_inr h
    rw [← Sum.inr.inj e]
    exact Or.inr rfl
theorem cpT_m : cpT s 0 ∈ [(16 : Int), 32, 48, 64, 80, 160, 176, -1] ∧ cpT s 1 ∈ [(96 : Int), 112, 192, 208, -1] := by
  unfold cpT
  refine ⟨?_, ?_⟩
  · rw [if_pos y00]
    repeat (first | decide | split)
  · rw [if_neg n10]
    repeat (first | decide | split)
theorem if_o : ∀ C ∈ [(16 : Int), 32, 48, 64, 80, 160, 176, 96, 112, 192, 208], ∀ b ∈ [(5 : Int), 6], ∀ x ∈ [(8 : Int), 0], 0 ≤ iOr (iOr C b) x ∧ iOr (iOr C b) x < 256 ∧ wdO (iOr (iOr C b) x) = 0 := by decide
theorem cmT_m (hM : M = 0 ∨ M = 1) (h : 0 ≤ cmT' T M) : cmT' T M ∈ [(16 : Int), 32, 48, 64, 80, 160, 176, 96, 112, 192, 208] ∧ tK T = 4 := by
  unfold cmT' at h ⊢
  split at h
  · rename_i k4
    rw [if_pos k4]
    refine ⟨?_, k4⟩
    have c := cpT_m (s := tkS T)
    rcases hM with e | e
    · rw [e] at h ⊢
      generalize cpT (tkS T) 0 = X at *
      have := c.1
      simp only [List.mem_cons, List.not_mem_nil, or_false] at this ⊢
      omega
    · rw [e] at h ⊢
      generalize cpT (tkS T) 1 = X at *
      have := c.2
      simp only [List.mem_cons, List.not_mem_nil, or_false] at this ⊢
      omega
  · omega
/-- if -/
theorem T162 (h : cG σ t n m k) (z : cZ0 σ) : okc (MM 162 [mR (some 18)] σ) (some (mI (rVc (pIf t (tks t n) k)))) (fun τ => oR (pIf t (tks t n) k) (cE σ τ) (cST m σ τ)) := by
  have km := cG_m h
  have rr := rgR_r (t := t) (X := tks t n k)
  have rk := rgR_n (t := t) (X := tks t n k)
  rw [M162, e162_0, T149 h]
  simp only [Option.bind_some, Option.toList_some, Option.toList_none, List.cons_append, List.nil_append]
  rw [e162_4]
  by_cases c0 : rgR t (tks t n k) = -1
  · unfold pIf
    rw [if_pos (show rgR t (tks t n k) < 0 by omega), if_neg (fun z => z c0), T144 h]
    simp only [Option.bind_some, Option.toList_some, Option.toList_none, List.cons_append, List.nil_append]
    rw [e162_14, if_pos bl0]
    exact okc_s (cE_m h (ccq_r _))
  · have l1 := cG_lt h (by rw [rk c0]; decide)
    have h1 : cG (sI σ 18 8 ((k + 1 : Nat) : Int)) t n m (k + 1) := cG_8 h l1
    have f1 : cqA (sI σ 18 8 ((k + 1 : Nat) : Int)) σ := cqA_8
    rw [if_pos c0, h.2.1, w32_s1 (show k < 100000 by omega)]
    generalize sI σ 18 8 ((k + 1 : Nat) : Int) = ρ1 at *
    have km1 := cG_m h1
    obtain ⟨r, hr⟩ : ∃ r, r = rgR t (tks t n k) := ⟨_, rfl⟩
    rw [← hr] at rr c0 ⊢
    have ir : isR r := by omega
    have main : ∀ (M : Int) (J : Nat) (ρ : MS), (M = 0 ∨ M = 1) → M = sS t (tks t n) (k + 1) → J = skN t (tks t n) (k + 1) → cG ρ t n m J → cqA ρ σ → okc (RR (lkB tb162) (B162_47, [some (mR (some 18)), some (mI r), some (mI M), none], [], ρ)) (some (mI (rVc (pIf t (tks t n) k)))) (fun τ => oR (pIf t (tks t n) k) (cE σ τ) (cST m σ τ)) := fun M J ρ h01 hM hJ g fr => by
      have eP : pIf t (tks t n) k = if cmT' (tks t n J) M < 0 then .inl (tB (tks t n J) : Int) else bS (pSid t (tks t n) (wOf r) (J + 1)) fun q => if ¬ nmP' t (tks t n q.2) 52 then .inl (tB (tks t n q.2) : Int) else bS (pWh t (tks t n) (iL 32767) (q.2 + 1)) fun u => .inr (((iOr (iOr (cmT' (tks t n J) M) (if r < 16 then 5 else 6)) q.1.1, iAnd r 15, q.1.2.1, lI u.1.2, lI q.1.2.2), (0, 0, 0), u.1.1), u.2) := by
        unfold pIf
        rw [← hr, if_neg (show ¬ r < 0 by omega), ← hM, ← hJ]
      have gm := cG_m g
      have s62 : RR (lkB tb162) (B162_47, [some (mR (some 18)), some (mI r), some (mI M), none], [], ρ) = RR (lkB tb162) (B162_62, [some (mR (some 18)), some (mI r), some (mI M), none], [mI (cmT' (tks t n J) M)], ρ) := by
        rw [e162_47]
        rcases h01 with cm | cm
        · rw [if_pos cm, T164 g, cm]
          rfl
        · rw [if_neg (show ¬ M = 0 by omega), T163 g, cm]
          simp only [Option.bind_some, Option.toList_some, Option.toList_none, List.cons_append, List.nil_append]
          rw [e162_55]
      have cmM := cmT_m (T := tks t n J) h01
      rw [eP, s62, e162_62]
      generalize cmT' (tks t n J) M = C at *
      by_cases cC : C < 0
      · rw [if_pos cC, if_neg (show ¬ 0 ≤ C by omega), T144 g]
        simp only [Option.bind_some, Option.toList_some, Option.toList_none, List.cons_append, List.nil_append]
        rw [e162_71, if_pos bl0]
        exact okc_s (cE_m g (ccq_A fr))
      · obtain ⟨cm, k4⟩ := cmM (by omega)
        have lJ := cG_lt g (by rw [k4]; decide)
        obtain ⟨b, hb⟩ : ∃ b : Int, b = if r < 16 then 5 else 6 := ⟨_, rfl⟩
        have bm : b ∈ [(5 : Int), 6] := by
          rw [hb]
          split <;> decide
        have s96 : (if 16 ≤ r then RR (lkB tb162) (B162_96, [some (mR (some 18)), some (mI r), some (mI M), some (mI C)], [mI 6, mI C, mR (some 18)], sI ρ 18 8 ((J + 1 : Nat) : Int)) else RR (lkB tb162) (B162_96, [some (mR (some 18)), some (mI r), some (mI M), some (mI C)], [mI 5, mI C, mR (some 18)], sI ρ 18 8 ((J + 1 : Nat) : Int))) = RR (lkB tb162) (B162_96, [some (mR (some 18)), some (mI r), some (mI M), some (mI C)], [mI b, mI C, mR (some 18)], sI ρ 18 8 ((J + 1 : Nat) : Int)) := by
          rw [hb]
          by_cases r16 : 16 ≤ r
          · rw [if_pos r16, if_neg (show ¬ r < 16 by omega)]
          · rw [if_neg r16, if_pos (show r < 16 by omega)]
        rw [if_neg cC, if_pos (show 0 ≤ C by omega), g.2.1, w32_s1 (show J < 100000 by omega), s96, ← hb, e162_96, wd_1 iOr_in]
        clear s96 s62
        have h2 : cG (sL (sI ρ 18 8 ((J + 1 : Nat) : Int)) 18 14 (wdR (iOr C b) (iAnd r 15) 0 0 0)) t n m (J + 1) := cG_L (cG_8 g lJ)
        have f2 : cqA (sL (sI ρ 18 8 ((J + 1 : Nat) : Int)) 18 14 (wdR (iOr C b) (iAnd r 15) 0 0 0)) σ := cqA_t cqA_L (cqA_t cqA_8 fr)
        have w2 : gL (sL (sI ρ 18 8 ((J + 1 : Nat) : Int)) 18 14 (wdR (iOr C b) (iAnd r 15) 0 0 0)) 18 14 = wdR (iOr C b) (iAnd r 15) 0 0 0 := h14
        generalize sL (sI ρ 18 8 ((J + 1 : Nat) : Int)) 18 14 (wdR (iOr C b) (iAnd r 15) 0 0 0) = ρ2 at *
        rw [T149 h2]
        simp only [Option.bind_some, Option.toList_some, Option.toList_none, List.cons_append, List.nil_append]
        rw [e162_113]
        obtain ⟨τ, e, p⟩ := cSid h2 w2 iOr_in ir
        have fin : okc (if rVc (pSid t (tks t n) (wOf r) (J + 1)) = 0 then some (some (mI 0), τ) else RR (lkB tb162) (B162_137, [some (mR (some 18)), some (mI r), some (mI M), some (mI C)], [], τ)) (some (mI (rVc (bS (pSid t (tks t n) (wOf r) (J + 1)) fun q => if ¬ nmP' t (tks t n q.2) 52 then .inl (tB (tks t n q.2) : Int) else bS (pWh t (tks t n) (iL 32767) (q.2 + 1)) fun u => .inr ((((iOr (iOr C b) q.1.1, iAnd r 15, q.1.2.1, lI u.1.2, lI q.1.2.2), (0, 0, 0), u.1.1), u.2) : SR × Nat))))) (fun τ => oR (bS (pSid t (tks t n) (wOf r) (J + 1)) fun q => if ¬ nmP' t (tks t n q.2) 52 then .inl (tB (tks t n q.2) : Int) else bS (pWh t (tks t n) (iL 32767) (q.2 + 1)) fun u => .inr ((((iOr (iOr C b) q.1.1, iAnd r 15, q.1.2.1, lI u.1.2, lI q.1.2.2), (0, 0, 0), u.1.1), u.2) : SR × Nat)) (cE σ τ) (cST m σ τ)) := by
          cases hp : pSid t (tks t n) (wOf r) (J + 1) with
          | inl e =>
            rw [hp] at p
            show okc (if (0 : Int) = 0 then _ else _) (some (mI 0)) _
            rw [if_pos y00]
            exact okc_s (cE_c (ccq_A f2) p)
          | inr q =>
            rw [hp] at p
            obtain ⟨p1, p2, p3, p4⟩ := p
            have g3 : cG τ t n m q.2 := cG_A h2 p1 p2 p3
            have f3 : cqA τ σ := cqA_t p1 f2
            have gm3 := cG_m g3
            obtain ⟨x8, hx8⟩ : ∃ x8, x8 = q.1.1 := ⟨_, rfl⟩
            have xm : x8 ∈ [(8 : Int), 0] := by
              rcases pSid_8 hp with y | y <;> rw [hx8, y] <;> decide
            obtain ⟨o1, o2, o3⟩ := if_o C cm b bm x8 xm
            show okc (if (1 : Int) = 0 then _ else _) _ _
            rw [if_neg n10, bS_r, e162_137, T145 (j := 52) g3 (by decide)]
            simp only [Option.bind_some, Option.toList_some, Option.toList_none, List.cons_append, List.nil_append]
            rw [e162_143]
            by_cases cn : nmP' t (tks t n q.2) 52
            · have l4 := cG_lt g3 (by rw [nm_k cn]; decide)
              have h4 : cG (sI τ 18 8 ((q.2 + 1 : Nat) : Int)) t n m (q.2 + 1) := cG_8 g3 l4
              have f4 : cqA (sI τ 18 8 ((q.2 + 1 : Nat) : Int)) σ := cqA_t cqA_8 f3
              have w4 : gL (sI τ 18 8 ((q.2 + 1 : Nat) : Int)) 18 14 = wdR (iOr (iOr C b) x8) (iAnd r 15) q.1.2.1 0 (lI q.1.2.2) := by
                rw [gL_sI, p4, hx8]
              rw [b2_yes cn, if_pos n10, if_neg (show ¬ ¬ nmP' t (tks t n q.2) 52 from fun z => z cn), g3.2.1, w32_s1 (show q.2 < 100000 by omega), ← hx8]
              generalize sI τ 18 8 ((q.2 + 1 : Nat) : Int) = ρ4 at *
              obtain ⟨υ, e5, p5⟩ := T159 (x := 32767) h4 w4 ((f4.1 _ _ (by omega)).trans z.2.2.1)
              rw [e5]
              simp only [Option.bind_some, Option.toList_some, Option.toList_none, List.cons_append, List.nil_append]
              rw [e162_168, if_pos rVc_b]
              cases hu : pWh t (tks t n) (iL 32767) (q.2 + 1) with
              | inl e =>
                rw [hu] at p5
                exact okc_s (cE_c (ccq_A f4) p5)
              | inr u =>
                rw [hu] at p5
                obtain ⟨u1, u2, u3, u4, u5⟩ := p5
                refine okc_s (cST_W (cqW_t u1 (cqW_A f4)) z h.2.2.2 u2 u3 ?_ rfl u4)
                rw [u5, fOp_w ⟨o1, o2⟩, if_pos o3, wd_f]
            · rw [b2_no cn, if_neg (fun z => z y00), if_pos (show ¬ nmP' t (tks t n q.2) 52 from cn), T144 g3]
              simp only [Option.bind_some, Option.toList_some, Option.toList_none, List.cons_append, List.nil_append]
              rw [e162_150, if_pos bl0]
              exact okc_s (cE_m g3 (ccq_A f3))
        by_cases rg : rgR t (tks t n (J + 1)) = -1
        · rw [if_neg (fun z => z rg)] at e ⊢
          rw [e]
          simp only [Option.bind_some, Option.toList_some, Option.toList_none, List.cons_append, List.nil_append]
          rw [e162_121]
          exact fin
        · rw [if_pos rg] at e ⊢
          rw [e]
          simp only [Option.bind_some, Option.toList_some, Option.toList_none, List.cons_append, List.nil_append]
          have sw : (if ¬ rVc (pSid t (tks t n) (wOf r) (J + 1)) = 0 then RR (lkB tb162) (B162_137, [some (mR (some 18)), some (mI r), some (mI M), some (mI C)], [], τ) else some (some (mI 0), τ)) = (if rVc (pSid t (tks t n) (wOf r) (J + 1)) = 0 then some (some (mI 0), τ) else RR (lkB tb162) (B162_137, [some (mR (some 18)), some (mI r), some (mI M), some (mI C)], [], τ)) := by
            by_cases y : rVc (pSid t (tks t n) (wOf r) (J + 1)) = 0
            · rw [if_pos y, if_neg (fun z => z y)]
            · rw [if_neg y, if_pos y]
          rw [e162_132, sw]
          exact fin
    rw [T145 (j := 60) h1 (by decide)]
    simp only [Option.bind_some, Option.toList_some, Option.toList_none, List.cons_append, List.nil_append]
    rw [e162_32]
    by_cases cs : nmP' t (tks t n (k + 1)) 60
    · have l2 := cG_lt h1 (by rw [nm_k cs]; decide)
      rw [b2_yes cs, if_neg n10, h1.2.1, w32_s1 (show k + 1 < 100000 by omega)]
      exact main 1 (k + 2) _ (Or.inr rfl) (sk_1 cs).1.symm (sk_1 cs).2.symm (cG_8 h1 l2) (cqA_t cqA_8 f1)
    · rw [b2_no cs, if_pos y00]
      exact main 0 (k + 1) ρ1 (Or.inl rfl) (sk_0 cs).1.symm (sk_0 cs).2.symm h1 f1
end CIF
