/-! ===== the reference: value, toRegister ===== -/
section RVB
variable {t : Nat → Int} {n i j k m : Nat} {σ τ ρ υ : MS} {c d e o w x x1 x2 x3 y s g r B : Int} {v : B64} {q : B64 × Int} {T : TK}
theorem V231b {z : Int} (h : 0 ≤ gI τ 80 14) : okc (RR (lkB tb379) (B379_231, [some (mR (some 80)), some (mI r), some (mI w), some (mI B), some (mI y)], [mI z, mR (some 80)], τ)) none (fun υ => rfr υ τ ∧ gI υ 80 14 = gI τ 80 14) := by
  rw [e379_231, T373b (b14 (by omega) (b14 (by omega) h))]
  simp only [Option.bind_some, Option.toList_some, Option.toList_none, List.cons_append, List.nil_append]
  rw [e379_244]
  have s406 : okc (RR (lkB tb379) (B379_406, [some (mR (some 80)), some (mI r), some (mI w), some (mI B), none], [], sI (sI τ 80 28 z) 80 29 y)) none (fun υ => rfr υ τ ∧ gI υ 80 14 = gI τ 80 14) := by
    rw [e379_406]
    exact okc_s ⟨rfr_t (rfr_I ⟨by omega, by omega⟩) (rfr_I ⟨by omega, by omega⟩), by rw [fO_ (by decide), fO_ (by decide)]⟩
  exact okc_q (by repeat (first | exact lq_nil | refine lq_cons (Or.inr rfl) ?_ | refine lq_cons (Or.inl rfl) ?_)) s406
theorem V203b (h : 0 ≤ gI τ 80 14) : okc (RR (lkB tb379) (B379_203, [some (mR (some 80)), some (mI r), some (mI w), some (mI B), some (mI y)], [], τ)) none (fun υ => rfr υ τ ∧ gI υ 80 14 = gI τ 80 14) := by
  rw [e379_203, T358b (b14 (by omega) h)]
  simp only [Option.bind_some, Option.toList_some, Option.toList_none, List.cons_append, List.nil_append]
  rw [e379_217, if_pos y00]
  exact bd_I ⟨by omega, by omega⟩ (V231b (b14 (by omega) h))
theorem V197b (h : 0 ≤ gI τ 80 14) : okc (RR (lkB tb379) (B379_197, [some (mR (some 80)), some (mI r), some (mI w), some (mI B), some (mI y)], [], τ)) none (fun υ => rfr υ τ ∧ gI υ 80 14 = gI τ 80 14) := by
  rw [e379_197, T375b h]
  simp only [Option.bind_some, Option.toList_some, Option.toList_none, List.cons_append, List.nil_append]
  exact V203b h
theorem V187b (h : 0 ≤ gI τ 80 14) : okc (RR (lkB tb379) (B379_187, [some (mR (some 80)), some (mI r), some (mI w), some (mI B), some (mI y)], [], τ)) none (fun υ => rfr υ τ ∧ gI υ 80 14 = gI τ 80 14) := by
  rw [e379_187, T373b h]
  simp only [Option.bind_some, Option.toList_some, Option.toList_none, List.cons_append, List.nil_append]
  rw [e379_191, T361b h]
  simp only [Option.bind_some, Option.toList_some, Option.toList_none, List.cons_append, List.nil_append]
  exact V197b h
theorem V363b (h : 0 ≤ gI τ 80 14) : okc (RR (lkB tb379) (B379_363, [some (mR (some 80)), some (mI r), some (mI w), some (mI B), none], [], τ)) none (fun υ => rfr υ τ ∧ gI υ 80 14 = gI τ 80 14) := by
  obtain ⟨ρ, hρ⟩ : ∃ ρ, ρ = sI (sI (sI τ 80 26 24) 80 28 1) 80 30 (lI (gL (sI (sI τ 80 26 24) 80 28 1) 80 12)) := ⟨_, rfl⟩
  have f : rfr ρ τ := by rw [hρ]; exact rfr_t (rfr_I ⟨by omega, by omega⟩) (rfr_t (rfr_I ⟨by omega, by omega⟩) (rfr_I ⟨by omega, by omega⟩))
  have g : gI ρ 80 14 = gI τ 80 14 := by rw [hρ, fO_ (by decide), fO_ (by decide), fO_ (by decide)]
  have g2 : gI (sL (sI ρ 80 33 1) 80 32 (BitVec.ofNat 64 0)) 80 14 = gI τ 80 14 := by rw [gI_sL, fO_ (by decide), g]
  rw [e379_363, ← hρ, e379_383, T373b (by rw [g2]; exact h)]
  simp only [Option.bind_some, Option.toList_some, Option.toList_none, List.cons_append, List.nil_append]
  rw [e379_397, e379_406]
  exact okc_s ⟨rfr_t rfr_L (rfr_t (rfr_I ⟨by omega, by omega⟩) f), g2⟩
theorem fin406 {P : MS → Prop} (p : P τ) : okc (RR (lkB tb379) (B379_406, [some (mR (some 80)), some (mI r), some (mI w), some (mI B), none], [], τ)) none P := by
  rw [e379_406]
  exact okc_s p
/-- the same with fields told -/
theorem stP_k {q : SR × Nat} (f : rfn τ σ) (g : RG τ t n q.2) (h : gI τ 80 26 = q.1.1.1 ∧ gI τ 80 27 = q.1.1.2.1 ∧ gI τ 80 28 = q.1.1.2.2.1 ∧ gI τ 80 29 = q.1.1.2.2.2.1 ∧ gI τ 80 30 = q.1.1.2.2.2.2) (h2 : gI τ 80 31 = q.1.2.1.1 ∧ (¬ q.1.2.1.1 = 0 ∨ ¬ q.1.2.1.2.2 = 0 → gL τ 80 32 = q.1.2.1.2.1) ∧ gI τ 80 33 = q.1.2.1.2.2) (hn : q.1.2.2 = none) : stP t n σ τ q := ⟨rfr_n f, g, h, h2, by rw [hn]; exact lnR_n f⟩
theorem bOf_b : 0 ≤ bOf r ∧ bOf r < 8 := by
  unfold bOf
  split <;> omega
theorem iOr_b : ∀ b : Fin 8, 0 ≤ iOr 176 ((b : Nat) : Int) ∧ iOr 176 ((b : Nat) : Int) < 256 := by decide
theorem iOr_B : 0 ≤ iOr 176 (bOf r) ∧ iOr 176 (bOf r) < 256 := by
  have b := bOf_b (r := r)
  have := iOr_b ⟨(bOf r).toNat, by omega⟩
  simp only at this
  rwa [show (((bOf r).toNat : Nat) : Int) = bOf r by omega] at this
theorem wOf_b : wOf r = 0 ∨ wOf r = 1 := by
  unfold wOf
  split
  · exact Or.inl rfl
  · exact Or.inr rfl
/-- what stands behind REG = -/
theorem T379 (h : RG σ t n k) (z : stZ σ (iAnd r 15)) (hr : 0 ≤ r) (hw : w = wOf r) (hB : B = bOf r) : okc (MM 379 [mR (some 80), mI r, mI w, mI B] σ) none (fun τ => oR (pVal t (tks t n) r k) (eR σ τ) (stP t n σ τ)) := by
  have wb : w = 0 ∨ w = 1 := by rw [hw]; exact wOf_b
  have rr := rgR_r (t := t) (X := tks t n k)
  -- all from 32 on
  have s32 : ¬ 0 ≤ rgR t (tks t n k) → okc (RR (lkB tb379) (B379_32, [some (mR (some 80)), some (mI r), some (mI w), some (mI B), none], [], σ)) none (fun τ => oR (pVal t (tks t n) r k) (eR σ τ) (stP t n σ τ)) := fun nr => by
    unfold pVal
    rw [if_neg nr, e379_32, RG_9 h]
    by_cases c3 : tK (tks t n k) = 3
    · rw [if_neg (show ¬ ¬ tK (tks t n k) = 3 from fun z => z c3), if_pos c3]
      refine okc_b (T381 (m := 0) h z hw hB) fun τ p => ?_
      show okc (RR (lkB tb379) (B379_47, [some (mR (some 80)), some (mI r), some (mI w), some (mI B), none], [], τ)) none _
      rw [e379_47]
      exact fin406 p
    · rw [if_pos c3, if_neg c3, T360 h]
      simp only [Option.bind_some, Option.toList_some, Option.toList_none, List.cons_append, List.nil_append]
      rw [e379_56]
      by_cases c45 : sgn (tks t n) 45 k
      · rw [b2_yes c45, if_neg n10, if_pos c45]
        refine okc_b (A355 h (by rw [c45.1]; decide)) fun τ1 p1 => ?_
        show okc (RR (lkB tb379) (B379_63, [some (mR (some 80)), some (mI r), some (mI w), some (mI B), none], [], τ1)) none _
        have g1 := p1.2
        have z1 := stZ_q z p1.1
        rw [e379_63, RG_9 g1]
        by_cases c2 : tK (tks t n (k + 1)) = 2
        · rw [if_neg (show ¬ ¬ tK (tks t n (k + 1)) = 2 from fun z => z c2), if_pos c2, T364 g1]
          simp only [Option.bind_some, Option.toList_some, Option.toList_none, List.cons_append, List.nil_append]
          rw [e379_75]
          by_cases cr : rgR t (tks t n (k + 1)) = r
          · rw [if_pos cr, if_neg (show ¬ ¬ rgR t (tks t n (k + 1)) = r from fun z => z cr), e379_87]
            refine okc_b (T373g (RG_I g1 (by omega)) (by rw [c2]; decide)) fun τ2 p2 => ?_
            show okc (RR (lkB tb379) (B379_100, [some (mR (some 80)), some (mI r), some (mI w), some (mI B), none], [], τ2)) none _
            rw [e379_100]
            have f2 : rfn τ2 σ := rfn_t (rfn_W p2.1) (rfn_t (rfn_I ⟨by omega, by omega⟩) (rfn_W p1.1))
            refine fin406 (stP_k f2 p2.2 ⟨?_, ?_, ?_, ?_, ?_⟩ ⟨?_, fun a => (a.elim (fun a => absurd rfl a) (fun a => absurd rfl a)), ?_⟩ rfl)
            · rw [p2.1.1 _ _ (by omega), fS_, hB]
            · rw [p2.1.1 _ _ (by omega), fO_ (by decide)]; exact z1.1
            · rw [p2.1.1 _ _ (by omega), fO_ (by decide)]; exact z1.2.1
            · rw [p2.1.1 _ _ (by omega), fO_ (by decide)]; exact z1.2.2.1
            · rw [p2.1.1 _ _ (by omega), fO_ (by decide)]; exact z1.2.2.2.1
            · rw [p2.1.1 _ _ (by omega), fO_ (by decide)]; exact z1.2.2.2.2.1
            · rw [p2.1.1 _ _ (by omega), fO_ (by decide)]; exact z1.2.2.2.2.2
          · have hb := rqE_0 (mis g1)
            rw [if_neg cr, if_pos (show ¬ rgR t (tks t n (k + 1)) = r from cr), T359g g1.2.2, RG_10 g1]
            simp only [Option.bind_some, Option.toList_some, Option.toList_none, List.cons_append, List.nil_append]
            rw [e379_87, T373b (b14 (by omega) hb)]
            simp only [Option.bind_some, Option.toList_some, Option.toList_none, List.cons_append, List.nil_append]
            rw [e379_100]
            exact fin406 ⟨rfr_t (rfr_I ⟨by omega, by omega⟩) (rfr_t rfr_14 (rfr_W p1.1)), by rw [fO_ (by decide)]; exact (mis g1).2, by omega⟩
        · rw [if_pos c2, if_neg c2]
          refine okc_b (T381 (m := 1) g1 z1 hw hB) fun τ p => ?_
          show okc (RR (lkB tb379) (B379_110, [some (mR (some 80)), some (mI r), some (mI w), some (mI B), none], [], τ)) none _
          rw [e379_110]
          refine fin406 ?_
          cases hp : pPln t (tks t n) r 1 (k + 1) with
          | inl e =>
            rw [hp] at p
            exact ⟨rfr_t p.1 (rfr_W p1.1), p.2⟩
          | inr q =>
            rw [hp] at p
            obtain ⟨a, b, c, d, e⟩ := p
            exact ⟨rfr_t a (rfr_W p1.1), b, c, d, lnR_q e (rfn_W p1.1)⟩
      · rw [b2_no c45, if_pos y00, if_neg c45, T360 h]
        simp only [Option.bind_some, Option.toList_some, Option.toList_none, List.cons_append, List.nil_append]
        rw [e379_119]
        by_cases c40 : sgn (tks t n) 40 k
        · rw [b2_yes c40, if_neg n10, if_pos c40]
          refine okc_b (A355 h (by rw [c40.1]; decide)) fun τ1 p1 => ?_
          show okc (RR (lkB tb379) (B379_126, [some (mR (some 80)), some (mI r), some (mI w), some (mI B), none], [], τ1)) none _
          have g1 := p1.2
          have z1 := stZ_q z p1.1
          have s172 : ∀ y : Int, y = csT t (tks t n (k + 1)) → (0 ≤ y → tK (tks t n (k + 1)) = 2) → okc (RR (lkB tb379) (B379_172, [some (mR (some 80)), some (mI r), some (mI w), some (mI B), none], [mI y], τ1)) none (fun τ => oR (if csT t (tks t n (k + 1)) < 0 then .inl (tB (tks t n (k + 1)) : Int) else if ¬ sgn (tks t n) 41 (k + 2) then .inl (tB (tks t n (k + 2)) : Int) else bS (pRgt t (tks t n) (wOf r) (k + 3)) fun q => .inr (((iOr 184 (bOf r), iAnd r 15, q.1, csT t (tks t n (k + 1)), 0), (0, 0, 0), none), q.2)) (eR σ τ) (stP t n σ τ)) := fun y hy hk => by
            rw [e379_172, ← hy]
            by_cases y0 : 0 ≤ y
            · rw [if_pos y0, if_neg (show ¬ y < 0 by omega), e379_187]
              refine okc_b (T373g g1 (by rw [hk y0]; decide)) fun τ2 p2 => ?_
              show okc (RR (lkB tb379) (B379_191, [some (mR (some 80)), some (mI r), some (mI w), some (mI B), some (mI y)], [], τ2)) none _
              have g2 : RG τ2 t n (k + 2) := p2.2
              rw [e379_191]
              by_cases c41 : sgn (tks t n) 41 (k + 2)
              · rw [if_neg (show ¬ ¬ sgn (tks t n) 41 (k + 2) from fun z => z c41)]
                refine okc_b (T361g g2 c41) fun τ3 p3 => ?_
                show okc (RR (lkB tb379) (B379_197, [some (mR (some 80)), some (mI r), some (mI w), some (mI B), some (mI y)], [], τ3)) none _
                have g3 : RG τ3 t n (k + 3) := p3.2
                have w3 : rqW τ3 σ := rqW_t p3.1 (rqW_t p2.1 p1.1)
                have z3 := stZ_q z w3
                rw [e379_197]
                unfold pRgt
                by_cases cr : rgR t (tks t n (k + 3)) < 0 ∨ ¬ (if rgR t (tks t n (k + 3)) < 16 then (0 : Int) else 1) = wOf r
                · rw [if_pos cr, T375e (x := 0) g3 (fun z => cr.elim (fun a => by have := z.1; omega) (fun a => z.2.elim (fun b => b rfl) (fun b => a (b.trans hw))))]
                  simp only [Option.bind_some, Option.toList_some, Option.toList_none, List.cons_append, List.nil_append]
                  exact wr_e (rfr_t rfr_14 (rfr_W w3)) (mis g3).2 (by omega) (V203b (rqE_0 (mis g3)))
                · have cr1 : 0 ≤ rgR t (tks t n (k + 3)) := by omega
                  have cr2 : (if rgR t (tks t n (k + 3)) < 16 then (0 : Int) else 1) = wOf r := Classical.byContradiction fun z => cr (Or.inr z)
                  have k2 : tK (tks t n (k + 3)) = 2 := rgR_n (t := t) (by omega)
                  rw [if_neg cr, T375g (x := 0) g3 wb ⟨cr1, Or.inr (cr2.trans hw.symm)⟩]
                  simp only [Option.bind_some, Option.toList_some, Option.toList_none, List.cons_append, List.nil_append]
                  have g4 : RG (sI τ3 80 26 (iOr 184 B)) t n (k + 3) := RG_I g3 (by omega)
                  rw [e379_203, T358g g4.2.2]
                  simp only [Option.bind_some, Option.toList_some, Option.toList_none, List.cons_append, List.nil_append]
                  rw [e379_217, if_neg n10, T364 g4]
                  simp only [Option.bind_some, Option.toList_some, Option.toList_none, List.cons_append, List.nil_append]
                  rw [e379_224, e379_231]
                  refine okc_b (T373g (RG_I (RG_I g4 (by omega)) (by omega)) (by rw [k2]; decide)) fun τ5 p5 => ?_
                  show okc (RR (lkB tb379) (B379_244, [some (mR (some 80)), some (mI r), some (mI w), some (mI B), some (mI y)], [], τ5)) none _
                  rw [e379_244]
                  have f5 : rfn τ5 σ := rfn_t (rfn_W p5.1) (rfn_t (rfn_I ⟨by omega, by omega⟩) (rfn_t (rfn_I ⟨by omega, by omega⟩) (rfn_t (rfn_I ⟨by omega, by omega⟩) (rfn_W w3))))
                  refine okc_q (by repeat (first | exact lq_nil | refine lq_cons (Or.inr rfl) ?_ | refine lq_cons (Or.inl rfl) ?_)) (fin406 (stP_k f5 p5.2 ⟨?_, ?_, ?_, ?_, ?_⟩ ⟨?_, fun a => (a.elim (fun a => absurd rfl a) (fun a => absurd rfl a)), ?_⟩ rfl))
                  · rw [p5.1.1 _ _ (by omega), fO_ (by decide), fO_ (by decide), fS_, hB]
                  · rw [p5.1.1 _ _ (by omega), fO_ (by decide), fO_ (by decide), fO_ (by decide)]; exact z3.1
                  · rw [p5.1.1 _ _ (by omega), fO_ (by decide), fS_]
                  · rw [p5.1.1 _ _ (by omega), fS_]
                  · rw [p5.1.1 _ _ (by omega), fO_ (by decide), fO_ (by decide), fO_ (by decide)]; exact z3.2.2.2.1
                  · rw [p5.1.1 _ _ (by omega), fO_ (by decide), fO_ (by decide), fO_ (by decide)]; exact z3.2.2.2.2.1
                  · rw [p5.1.1 _ _ (by omega), fO_ (by decide), fO_ (by decide), fO_ (by decide)]; exact z3.2.2.2.2.2
              · rw [if_pos (show ¬ sgn (tks t n) 41 (k + 2) from c41), T361e g2 c41]
                simp only [Option.bind_some, Option.toList_some, Option.toList_none, List.cons_append, List.nil_append]
                exact wr_e (rfr_t rfr_14 (rfr_W (rqW_t p2.1 p1.1))) (mis g2).2 (by omega) (V197b (rqE_0 (mis g2)))
            · rw [if_neg y0, if_pos (show y < 0 by omega), T359g g1.2.2, RG_10 g1]
              simp only [Option.bind_some, Option.toList_some, Option.toList_none, List.cons_append, List.nil_append]
              exact wr_e (rfr_t rfr_14 (rfr_W p1.1)) (mis g1).2 (by omega) (V187b (rqE_0 (mis g1)))
          rw [e379_126, N362 g1 (by decide)]
          simp only [Option.bind_some, Option.toList_some, Option.toList_none, List.cons_append, List.nil_append]
          rw [e379_133]
          by_cases b1 : nmP' t (tks t n (k + 1)) 72
          · rw [b2_yes b1, if_neg n10]
            refine s172 8 ?_ (fun _ => nm_k b1)
            unfold csT
            rw [if_pos b1]
          · rw [b2_no b1, if_pos y00, N362 g1 (by decide)]
            simp only [Option.bind_some, Option.toList_some, Option.toList_none, List.cons_append, List.nil_append]
            rw [e379_148]
            by_cases b2' : nmP' t (tks t n (k + 1)) 73
            · rw [b2_yes b2', if_neg n10]
              refine s172 16 ?_ (fun _ => nm_k b2')
              unfold csT
              rw [if_neg b1, if_pos b2']
            · rw [b2_no b2', if_pos y00, N362 g1 (by decide)]
              simp only [Option.bind_some, Option.toList_some, Option.toList_none, List.cons_append, List.nil_append]
              rw [e379_163]
              by_cases b3 : nmP' t (tks t n (k + 1)) 74
              · rw [b2_yes b3, if_neg n10]
                refine s172 32 ?_ (fun _ => nm_k b3)
                unfold csT
                rw [if_neg b1, if_neg b2', if_pos b3]
              · rw [b2_no b3, if_pos y00]
                refine s172 (-1) ?_ (fun z => by omega)
                unfold csT
                rw [if_neg b1, if_neg b2', if_neg b3]
        · rw [b2_no c40, if_pos y00, if_neg c40]
          have s400 : okc (RR (lkB tb379) (B379_400, [some (mR (some 80)), some (mI r), some (mI w), some (mI B), none], [], σ)) none (fun τ => oR (if (orT t (tks t n k)).1 < 0 ∨ ¬ r < 16 then .inl (tB (tks t n k) : Int) else if ¬ rgR t (tks t n (k + 1)) = r then .inl (tB (tks t n (k + 1)) : Int) else .inr ((((orT t (tks t n k)).1, iAnd r 15, 0, 0, (orT t (tks t n k)).2), (0, 0, 0), none), k + 2)) (eR σ τ) (stP t n σ τ)) := by
            rw [e379_400]
            refine okc_b (T380 h z hr hw) fun τ p => ?_
            show okc (RR (lkB tb379) (B379_406, [some (mR (some 80)), some (mI r), some (mI w), some (mI B), none], [], τ)) none _
            exact fin406 p
          by_cases c16 : r < 16
          · have w0 : w = 0 := by rw [hw]; exact if_pos c16
            have s313 : okc (RR (lkB tb379) (B379_313, [some (mR (some 80)), some (mI r), some (mI w), some (mI B), none], [], σ)) none (fun τ => oR (if r < 16 ∧ nmP' t (tks t n k) 61 then (bS (pNum (tks t n) (iL 7) (k + 1)) fun k2 => .inr (((24, iAnd r 15, 1, 0, lI (tV (tks t n (k + 1)))), (0, 0, 1), none), k2)) else if (orT t (tks t n k)).1 < 0 ∨ ¬ r < 16 then .inl (tB (tks t n k) : Int) else if ¬ rgR t (tks t n (k + 1)) = r then .inl (tB (tks t n (k + 1)) : Int) else .inr ((((orT t (tks t n k)).1, iAnd r 15, 0, 0, (orT t (tks t n k)).2), (0, 0, 0), none), k + 2)) (eR σ τ) (stP t n σ τ)) := by
              rw [e379_313, if_neg (show ¬ ¬ w = 0 from fun z => z w0), N362 h (by decide)]
              simp only [Option.bind_some, Option.toList_some, Option.toList_none, List.cons_append, List.nil_append]
              rw [e379_324]
              by_cases cm : nmP' t (tks t n k) 61
              · rw [b2_yes cm, if_neg n10, if_pos (show r < 16 ∧ nmP' t (tks t n k) 61 from ⟨c16, cm⟩)]
                refine okc_b (A355 h (by rw [nm_k cm]; decide)) fun τ1 p1 => ?_
                show okc (RR (lkB tb379) (B379_331, [some (mR (some 80)), some (mI r), some (mI w), some (mI B), none], [], τ1)) none _
                have g1 := p1.2
                have z1 := stZ_q z p1.1
                rw [e379_331]
                by_cases c3' : tK (tks t n (k + 1)) = 3 ∧ tkS (tks t n (k + 1)) = 0
                · rw [T372g g1 c3']
                  simp only [Option.bind_some, Option.toList_some, Option.toList_none, List.cons_append, List.nil_append]
                  rw [e379_335, T358g g1.2.2]
                  simp only [Option.bind_some, Option.toList_some, Option.toList_none, List.cons_append, List.nil_append]
                  rw [e379_339, if_neg n10, T389, RG_12 g1 c3'.1]
                  simp only [Option.bind_some, Option.toList_some, Option.toList_none, List.cons_append, List.nil_append]
                  rw [e379_352]
                  unfold pNum
                  by_cases cl : iL 7 < tV (tks t n (k + 1))
                  · rw [b2_yes cl, if_neg n10, if_neg (show ¬ (tK (tks t n (k + 1)) = 3 ∧ tkS (tks t n (k + 1)) = 0 ∧ ¬ iL 7 < tV (tks t n (k + 1))) from fun z => z.2.2 cl), T359g g1.2.2, RG_10 g1]
                    simp only [Option.bind_some, Option.toList_some, Option.toList_none, List.cons_append, List.nil_append]
                    exact wr_e (rfr_t rfr_14 (rfr_W p1.1)) (mis g1).2 (by omega) (V363b (rqE_0 (mis g1)))
                  · rw [b2_no cl, if_pos y00, if_pos (show tK (tks t n (k + 1)) = 3 ∧ tkS (tks t n (k + 1)) = 0 ∧ ¬ iL 7 < tV (tks t n (k + 1)) from ⟨c3'.1, c3'.2, cl⟩), e379_363]
                    have l12 : gL (sI (sI τ1 80 26 24) 80 28 1) 80 12 = tV (tks t n (k + 1)) := RG_12 g1 c3'.1
                    rw [l12, e379_383]
                    have gg : RG (sL (sI (sI (sI (sI τ1 80 26 24) 80 28 1) 80 30 (lI (tV (tks t n (k + 1))))) 80 33 1) 80 32 (BitVec.ofNat 64 0)) t n (k + 1) := RG_Lx (RG_I (RG_I (RG_I (RG_I g1 (by omega)) (by omega)) (by omega)) (by omega)) (by omega)
                    refine okc_b (T373g gg (by rw [c3'.1]; decide)) fun τ2 p2 => ?_
                    show okc (RR (lkB tb379) (B379_397, [some (mR (some 80)), some (mI r), some (mI w), some (mI B), none], [], τ2)) none _
                    rw [e379_397]
                    have f2 : rfn τ2 σ := rfn_t (rfn_W p2.1) (rfn_t rfn_L (rfn_t (rfn_I ⟨by omega, by omega⟩) (rfn_t (rfn_I ⟨by omega, by omega⟩) (rfn_t (rfn_I ⟨by omega, by omega⟩) (rfn_t (rfn_I ⟨by omega, by omega⟩) (rfn_W p1.1))))))
                    refine fin406 (stP_k f2 p2.2 ⟨?_, ?_, ?_, ?_, ?_⟩ ⟨?_, fun a => ?_, ?_⟩ rfl)
                    · rw [p2.1.1 _ _ (by omega), gI_sL, fO_ (by decide), fO_ (by decide), fO_ (by decide), fS_]
                    · rw [p2.1.1 _ _ (by omega), gI_sL, fO_ (by decide), fO_ (by decide), fO_ (by decide), fO_ (by decide)]; exact z1.1
                    · rw [p2.1.1 _ _ (by omega), gI_sL, fO_ (by decide), fO_ (by decide), fS_]
                    · rw [p2.1.1 _ _ (by omega), gI_sL, fO_ (by decide), fO_ (by decide), fO_ (by decide), fO_ (by decide)]; exact z1.2.2.1
                    · rw [p2.1.1 _ _ (by omega), gI_sL, fO_ (by decide), fS_]
                    · rw [p2.1.1 _ _ (by omega), gI_sL, fO_ (by decide), fO_ (by decide), fO_ (by decide), fO_ (by decide)]; exact z1.2.2.2.2.1
                    · rw [p2.1.2.1 _ _ (by omega), gL_sL, if_pos ⟨rfl, rfl⟩]; rfl
                    · rw [p2.1.1 _ _ (by omega), gI_sL, fS_]
                · have pn : pNum (tks t n) (iL 7) (k + 1) = .inl (tB (tks t n (k + 1)) : Int) := if_neg (fun z => c3' ⟨z.1, z.2.1⟩)
                  have hb := rqE_0 (mis g1)
                  rw [pn, T372e g1 c3']
                  simp only [Option.bind_some, Option.toList_some, Option.toList_none, List.cons_append, List.nil_append]
                  rw [e379_335, T358b hb]
                  simp only [Option.bind_some, Option.toList_some, Option.toList_none, List.cons_append, List.nil_append]
                  rw [e379_339, if_pos y00]
                  exact wr_e (rfr_t rfr_14 (rfr_W p1.1)) (mis g1).2 (by omega) (V363b hb)
              · rw [b2_no cm, if_pos y00, if_neg (show ¬ (r < 16 ∧ nmP' t (tks t n k) 61) from fun z => cm z.2)]
                exact s400
            rw [if_neg (show ¬ ¬ w = 0 from fun z => z w0), T360 h]
            simp only [Option.bind_some, Option.toList_some, Option.toList_none, List.cons_append, List.nil_append]
            rw [e379_257]
            by_cases c42 : sgn (tks t n) 42 k
            · rw [b2_yes c42, if_neg n10, if_pos (show r < 16 ∧ sgn (tks t n) 42 k from ⟨c16, c42⟩)]
              refine okc_b (T382 (x := 1) h) fun τ1 p1 => ?_
              show okc (RR (lkB tb379) (B379_265, [some (mR (some 80)), some (mI r), some (mI w), some (mI B), none], [], τ1)) none _
              have s291 : ∀ y : Int, okc (RR (lkB tb379) (B379_291, [some (mR (some 80)), some (mI r), some (mI w), some (mI B), none], [mI y, mR (some 80)], τ1)) none (fun τ => τ = sI (sI (sI τ1 80 26 y) 80 28 (gI τ1 80 34)) 80 29 (gI τ1 80 35)) := fun y => by
                have a34 : gI (sI τ1 80 26 y) 80 34 = gI τ1 80 34 := fO_ (by decide)
                have a35 : gI (sI (sI τ1 80 26 y) 80 28 (gI τ1 80 34)) 80 35 = gI τ1 80 35 := by rw [fO_ (by decide), fO_ (by decide)]
                rw [e379_291, a34, a35, e379_310]
                exact fin406 rfl
              have s265 : okc (RR (lkB tb379) (B379_265, [some (mR (some 80)), some (mI r), some (mI w), some (mI B), none], [], τ1)) none (fun τ => τ = sI (sI (sI τ1 80 26 (if gI τ1 80 37 = 0 then iOr 97 (gI τ1 80 36) else iOr 129 (gI τ1 80 36))) 80 28 (gI τ1 80 34)) 80 29 (gI τ1 80 35)) := by
                rw [e379_265]
                by_cases c0 : gI τ1 80 37 = 0
                · rw [if_pos c0, if_pos c0]
                  exact s291 _
                · rw [if_neg c0, if_neg c0]
                  exact s291 _
              refine okc_m s265 fun τ e => ?_
              rw [e]
              cases hp : pPtr t (tks t n) 1 k with
              | inl e =>
                rw [hp] at p1
                exact ⟨rfr_t (rfr_I ⟨by omega, by omega⟩) (rfr_t (rfr_I ⟨by omega, by omega⟩) (rfr_t (rfr_I ⟨by omega, by omega⟩) p1.1)), by rw [fO_ (by decide), fO_ (by decide), fO_ (by decide)]; exact p1.2.1, p1.2.2⟩
              | inr q =>
                rw [hp] at p1
                obtain ⟨q1, q2, ⟨q3, q4⟩, q5, q6⟩ := p1
                have fr : rfn (sI (sI (sI τ1 80 26 (if gI τ1 80 37 = 0 then iOr 97 (gI τ1 80 36) else iOr 129 (gI τ1 80 36))) 80 28 (gI τ1 80 34)) 80 29 (gI τ1 80 35)) σ := rfn_t (rfn_I ⟨by omega, by omega⟩) (rfn_t (rfn_I ⟨by omega, by omega⟩) (rfn_t (rfn_I ⟨by omega, by omega⟩) (rfn_P q1)))
                refine stP_k fr (RG_I (RG_I (RG_I q2 (by omega)) (by omega)) (by omega)) ⟨?_, ?_, ?_, ?_, ?_⟩ ⟨?_, fun a => (a.elim (fun a => absurd rfl a) (fun a => absurd rfl a)), ?_⟩ rfl
                · rw [fO_ (by decide), fO_ (by decide), fS_, q4, q3]
                  show (if (if q.1.1 < 128 then (0 : Int) else 1) = 0 then iOr 97 (iAnd q.1.1 24) else iOr 129 (iAnd q.1.1 24)) = iOr (if q.1.1 < 128 then 97 else 129) (iAnd q.1.1 24)
                  by_cases cq : q.1.1 < 128
                  · rw [if_pos cq, if_pos cq, if_pos y00]
                  · rw [if_neg cq, if_neg cq, if_neg n10]
                · rw [fO_ (by decide), fO_ (by decide), fO_ (by decide), q1.1 _ _ (by omega)]; exact z.1
                · rw [fO_ (by decide), fS_, q5]
                · rw [fS_, q6]
                · rw [fO_ (by decide), fO_ (by decide), fO_ (by decide), q1.1 _ _ (by omega)]; exact z.2.2.2.1
                · rw [fO_ (by decide), fO_ (by decide), fO_ (by decide), q1.1 _ _ (by omega)]; exact z.2.2.2.2.1
                · rw [fO_ (by decide), fO_ (by decide), fO_ (by decide), q1.1 _ _ (by omega)]; exact z.2.2.2.2.2
            · rw [b2_no c42, if_pos y00, if_neg (show ¬ (r < 16 ∧ sgn (tks t n) 42 k) from fun z => c42 z.2)]
              exact s313
          · have w1 : w = 1 := by rw [hw]; exact if_neg c16
            rw [if_pos (show ¬ w = 0 by omega), if_neg (show ¬ (r < 16 ∧ sgn (tks t n) 42 k) from fun z => c16 z.1), if_neg (show ¬ (r < 16 ∧ nmP' t (tks t n k) 61) from fun z => c16 z.1), e379_313, if_pos (show ¬ w = 0 by omega)]
            exact s400
  rw [M379, e379_0, RG_9 h]
  by_cases c2 : tK (tks t n k) = 2
  · rw [if_neg (show ¬ ¬ tK (tks t n k) = 2 from fun z => z c2), T364 h]
    simp only [Option.bind_some, Option.toList_some, Option.toList_none, List.cons_append, List.nil_append]
    rw [e379_12]
    by_cases cr : rgR t (tks t n k) < 0
    · rw [if_pos cr]
      exact s32 (by omega)
    · rw [if_neg cr]
      have z26 : gI (sI σ 80 26 (iOr 176 B)) 80 26 = iOr 176 (bOf r) := by rw [fS_, hB]
      have z28 : gI (sI σ 80 26 (iOr 176 B)) 80 28 = 0 := by rw [fO_ (by decide)]; exact z.2.1
      have z30 : gI (sI σ 80 26 (iOr 176 B)) 80 30 = 0 := by rw [fO_ (by decide)]; exact z.2.2.2.1
      refine okc_b (T376 (RG_I h (by omega)) wb (by rw [z26]; exact iOr_B) z28 z30) fun τ p => ?_
      show okc (RR (lkB tb379) (B379_29, [some (mR (some 80)), some (mI r), some (mI w), some (mI B), none], [], τ)) none _
      rw [e379_29]
      refine fin406 ?_
      unfold pVal
      rw [if_pos (show 0 ≤ rgR t (tks t n k) by omega)]
      unfold pSid at p
      rw [if_pos c2, hw] at p
      cases hp : pRgt t (tks t n) (wOf r) k with
      | inl e =>
        rw [hp] at p
        exact ⟨rfr_t p.1 (rfr_I ⟨by omega, by omega⟩), p.2⟩
      | inr q =>
        rw [hp] at p
        obtain ⟨a, b, c, d, e⟩ := p
        refine stP_k (rfn_t (rfn_S a) (rfn_I ⟨by omega, by omega⟩)) b ⟨c.trans (by rw [z26]), ?_, d, ?_, e.trans lI_0⟩ ⟨?_, fun a => (a.elim (fun a => absurd rfl a) (fun a => absurd rfl a)), ?_⟩ rfl
        · rw [a.1 _ _ (by omega), fO_ (by decide)]; exact z.1
        · rw [a.1 _ _ (by omega), fO_ (by decide)]; exact z.2.2.1
        · rw [a.1 _ _ (by omega), fO_ (by decide)]; exact z.2.2.2.2.1
        · rw [a.1 _ _ (by omega), fO_ (by decide)]; exact z.2.2.2.2.2
  · rw [if_pos c2]
    refine s32 ?_
    intro q
    exact c2 (rgR_n (t := t) (by omega))
end RVB
