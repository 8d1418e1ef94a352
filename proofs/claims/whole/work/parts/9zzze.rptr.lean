/-! ===== the reference's PTR ===== -/
section RPT
variable {t : Nat → Int} {n i j k m : Nat} {σ τ ρ υ : MS} {c d e o w x x1 x2 x3 y : Int} {v : B64} {q : B64 × Int} {T : TK}
theorem bd_I {s : Nat} {o : Option Rs} (hs : 25 ≤ s ∧ s ≤ 37) (p : okc o none (fun υ => rfr υ (sI τ 80 s y) ∧ gI υ 80 14 = gI (sI τ 80 s y) 80 14)) : okc o none (fun υ => rfr υ τ ∧ gI υ 80 14 = gI τ 80 14) := okc_m p fun υ z => ⟨rfr_t z.1 (rfr_I hs), z.2.trans (by rw [gI_sI, if_neg (by omega)])⟩
theorem b14 {s : Nat} (hs : 25 ≤ s) (h : 0 ≤ gI τ 80 14) : 0 ≤ gI (sI τ 80 s y) 80 14 := by rw [gI_sI, if_neg (by omega)]; exact h
theorem P374b (h : 0 ≤ gI τ 80 14) : okc (RR (lkB tb382) (B382_374, [some (mR (some 80)), some (mI x1), some (mI x2), some (mI x3), none], [mL v, mR (some 80)], τ)) none (fun υ => rfr υ τ ∧ gI υ 80 14 = gI τ 80 14) := by
  rw [e382_374, T373b (b14 (by omega) h)]
  simp only [Option.bind_some, Option.toList_some, Option.toList_none, List.cons_append, List.nil_append]
  rw [e382_382, T361b (b14 (by omega) h)]
  simp only [Option.bind_some, Option.toList_some, Option.toList_none, List.cons_append, List.nil_append]
  rw [e382_388]
  exact bd_I ⟨by omega, by omega⟩ (okc_s ⟨rfr_r _, rfl⟩)
theorem P357b (h : 0 ≤ gI τ 80 14) : okc (RR (lkB tb382) (B382_357, [some (mR (some 80)), some (mI x1), some (mI x2), some (mI x3), none], [], τ)) none (fun υ => rfr υ τ ∧ gI υ 80 14 = gI τ 80 14) := by
  rw [e382_357]
  by_cases c : x3 = 0
  · rw [if_pos c]
    exact P374b h
  · rw [if_neg c]
    exact P374b h
theorem P311b (h : 0 ≤ gI τ 80 14) : okc (RR (lkB tb382) (B382_311, [some (mR (some 80)), some (mI x1), some (mI x2), some (mI x3), none], [], τ)) none (fun υ => rfr υ τ ∧ gI υ 80 14 = gI τ 80 14) := by
  rw [e382_311, T373b h]
  simp only [Option.bind_some, Option.toList_some, Option.toList_none, List.cons_append, List.nil_append]
  rw [e382_315, T372b h]
  simp only [Option.bind_some, Option.toList_some, Option.toList_none, List.cons_append, List.nil_append]
  rw [e382_319, T358b h]
  simp only [Option.bind_some, Option.toList_some, Option.toList_none, List.cons_append, List.nil_append]
  rw [e382_323, if_pos y00]
  exact P357b h
theorem P261b (h : 0 ≤ gI τ 80 14) : okc (RR (lkB tb382) (B382_261, [some (mR (some 80)), some (mI x1), some (mI x2), none, none], [], τ)) none (fun υ => rfr υ τ ∧ gI υ 80 14 = gI τ 80 14) := by
  rw [e382_261, T358b h]
  simp only [Option.bind_some, Option.toList_some, Option.toList_none, List.cons_append, List.nil_append]
  rw [e382_265, if_pos y00, e382_281, e382_282, T358b h]
  simp only [Option.bind_some, Option.toList_some, Option.toList_none, List.cons_append, List.nil_append]
  rw [e382_287, if_pos y00]
  exact P311b h
theorem P238b (h : 0 ≤ gI τ 80 14) : okc (RR (lkB tb382) (B382_238, [some (mR (some 80)), some (mI x1), some (mI x2), none, none], [], τ)) none (fun υ => rfr υ τ ∧ gI υ 80 14 = gI τ 80 14) := by
  rw [e382_238, T358b h]
  simp only [Option.bind_some, Option.toList_some, Option.toList_none, List.cons_append, List.nil_append]
  rw [e382_243, if_pos y00, e382_254, T373b (b14 (by omega) h)]
  simp only [Option.bind_some, Option.toList_some, Option.toList_none, List.cons_append, List.nil_append]
  exact bd_I ⟨by omega, by omega⟩ (P261b (b14 (by omega) h))
theorem P232b (h : 0 ≤ gI τ 80 14) : okc (RR (lkB tb382) (B382_232, [some (mR (some 80)), some (mI x1), some (mI x2), none, none], [], τ)) none (fun υ => rfr υ τ ∧ gI υ 80 14 = gI τ 80 14) := by
  rw [e382_232, T375b h]
  simp only [Option.bind_some, Option.toList_some, Option.toList_none, List.cons_append, List.nil_append]
  exact P238b h
theorem P226b (h : 0 ≤ gI τ 80 14) : okc (RR (lkB tb382) (B382_226, [some (mR (some 80)), some (mI x1), some (mI x2), none, none], [], τ)) none (fun υ => rfr υ τ ∧ gI υ 80 14 = gI τ 80 14) := by
  rw [e382_226, T361b h]
  simp only [Option.bind_some, Option.toList_some, Option.toList_none, List.cons_append, List.nil_append]
  exact P232b h
theorem P220b (h : 0 ≤ gI τ 80 14) : okc (RR (lkB tb382) (B382_220, [some (mR (some 80)), some (mI x1), some (mI x2), none, none], [], τ)) none (fun υ => rfr υ τ ∧ gI υ 80 14 = gI τ 80 14) := by
  rw [e382_220, T361b h]
  simp only [Option.bind_some, Option.toList_some, Option.toList_none, List.cons_append, List.nil_append]
  exact P226b h
theorem P210b (h : 0 ≤ gI τ 80 14) : okc (RR (lkB tb382) (B382_210, [some (mR (some 80)), some (mI x1), some (mI x2), none, none], [], τ)) none (fun υ => rfr υ τ ∧ gI υ 80 14 = gI τ 80 14) := by
  rw [e382_210, T373b h]
  simp only [Option.bind_some, Option.toList_some, Option.toList_none, List.cons_append, List.nil_append]
  rw [e382_214, T361b h]
  simp only [Option.bind_some, Option.toList_some, Option.toList_none, List.cons_append, List.nil_append]
  exact P220b h
theorem P141b (h : 0 ≤ gI τ 80 14) : okc (RR (lkB tb382) (B382_141, [some (mR (some 80)), some (mI x1), some (mI x2), none, none], [], τ)) none (fun υ => rfr υ τ ∧ gI υ 80 14 = gI τ 80 14) := by
  rw [e382_141, T358b h]
  simp only [Option.bind_some, Option.toList_some, Option.toList_none, List.cons_append, List.nil_append]
  rw [e382_145, if_pos y00]
  exact P210b h
theorem P12b (h : 0 ≤ gI τ 80 14) : okc (RR (lkB tb382) (B382_12, [some (mR (some 80)), some (mI x1), none, none, none], [], τ)) none (fun υ => rfr υ τ ∧ gI υ 80 14 = gI τ 80 14) := by
  rw [e382_12, T358b h]
  simp only [Option.bind_some, Option.toList_some, Option.toList_none, List.cons_append, List.nil_append]
  rw [e382_17, if_pos y00, e382_58, e382_59, if_pos ⟨ao80r, Or.inl rfl⟩, T358b (b14 (by omega) h)]
  simp only [Option.bind_some, Option.toList_some, Option.toList_none, List.cons_append, List.nil_append]
  rw [e382_66, if_pos y00, e382_120, e382_121, T358b (b14 (by omega) h)]
  simp only [Option.bind_some, Option.toList_some, Option.toList_none, List.cons_append, List.nil_append]
  rw [e382_126, if_pos y00]
  exact bd_I ⟨by omega, by omega⟩ (P141b (b14 (by omega) h))
theorem P6b (h : 0 ≤ gI τ 80 14) : okc (RR (lkB tb382) (B382_6, [some (mR (some 80)), some (mI x1), none, none, none], [], τ)) none (fun υ => rfr υ τ ∧ gI υ 80 14 = gI τ 80 14) := by
  rw [e382_6, T361b h]
  simp only [Option.bind_some, Option.toList_some, Option.toList_none, List.cons_append, List.nil_append]
  exact P12b h
theorem rqP_W (h : rqW τ σ) : rqP τ σ := ⟨fun k s q => h.1 k s (by omega), h.2.1, h.2.2⟩
theorem rqP_t (h1 : rqP υ τ) (h2 : rqP τ σ) : rqP υ σ := ⟨fun k s q => (h1.1 k s q).trans (h2.1 k s q), fun k s q => (h1.2.1 k s q).trans (h2.2.1 k s q), h1.2.2.trans h2.2.2⟩
theorem rqP_I {s : Nat} (h : 34 ≤ s ∧ s ≤ 37) : rqP (sI σ 80 s x) σ := ⟨fun k' s' q => by rw [gI_sI, if_neg (by omega)], fun _ _ _ => rfl, rfl⟩
theorem rfr_P (h : rqP τ σ) : rfr τ σ := ⟨fun k s q _ => h.1 k s (by omega), fun k s q => h.2.1 k s (by omega), h.2.2⟩
theorem and15 : ∀ r : Fin 11, iAnd ((r : Nat) : Int) 15 = ((r : Nat) : Int) := by decide
theorem and15' {r : Int} (h : 0 ≤ r ∧ r ≤ 10) : iAnd r 15 = r := by
  have := and15 ⟨r.toNat, by omega⟩
  simp only at this
  rwa [show ((r.toNat : Nat) : Int) = r by omega] at this
/-- behind the size -/
theorem L210 {z : Int} (h : RG σ t n k) (h5 : ¬ tK (tks t n k) = 5) : okc (RR (lkB tb382) (B382_210, [some (mR (some 80)), some (mI x1), some (mI x2), none, none], [], σ)) none (fun τ => oR (pPt2 t (tks t n) z (k + 1)) (eR σ τ) (fun q => rqP τ σ ∧ RG τ t n q.2 ∧ q.1.1 = z ∧ gI τ 80 36 = gI σ 80 36 ∧ gI τ 80 37 = gI σ 80 37 ∧ gI τ 80 34 = q.1.2.1 ∧ gI τ 80 35 = lI q.1.2.2)) := by
  rw [e382_210]
  refine okc_b (T373g h h5) fun τ1 p1 => ?_
  show okc (RR (lkB tb382) (B382_214, [some (mR (some 80)), some (mI x1), some (mI x2), none, none], [], τ1)) none _
  unfold pPt2
  rw [e382_214]
  by_cases c1 : sgn (tks t n) 42 (k + 1)
  · rw [if_neg (show ¬ ¬ sgn (tks t n) 42 (k + 1) from fun z => z c1)]
    refine okc_b (T361g p1.2 c1) fun τ2 p2 => ?_
    show okc (RR (lkB tb382) (B382_220, [some (mR (some 80)), some (mI x1), some (mI x2), none, none], [], τ2)) none _
    rw [e382_220]
    by_cases c2 : sgn (tks t n) 41 (k + 1 + 1)
    · rw [if_neg (show ¬ ¬ sgn (tks t n) 41 (k + 1 + 1) from fun z => z c2)]
      refine okc_b (T361g p2.2 c2) fun τ3 p3 => ?_
      show okc (RR (lkB tb382) (B382_226, [some (mR (some 80)), some (mI x1), some (mI x2), none, none], [], τ3)) none _
      rw [e382_226]
      by_cases c3 : sgn (tks t n) 40 (k + 1 + 2)
      · rw [if_neg (show ¬ ¬ sgn (tks t n) 40 (k + 1 + 2) from fun z => z c3)]
        refine okc_b (T361g p3.2 c3) fun τ4 p4 => ?_
        show okc (RR (lkB tb382) (B382_232, [some (mR (some 80)), some (mI x1), some (mI x2), none, none], [], τ4)) none _
        have f4 : rqW τ4 σ := rqW_t p4.1 (rqW_t p3.1 (rqW_t p2.1 p1.1))
        have g4 : RG τ4 t n (k + 1 + 3) := p4.2
        clear p4 p3 p2 p1
        rw [e382_232]
        unfold pRgt
        by_cases c4 : rgR t (tks t n (k + 1 + 3)) < 0 ∨ ¬ (if rgR t (tks t n (k + 1 + 3)) < 16 then (0 : Int) else 1) = 0
        · rw [if_pos c4, T375e (x := 0) g4 (fun z => c4.elim (fun a => by have := z.1; omega) (fun a => z.2.elim (fun b => b rfl) a))]
          simp only [Option.bind_some, Option.toList_some, Option.toList_none, List.cons_append, List.nil_append]
          exact wr_e (rfr_t rfr_14 (rfr_W f4)) (mis g4).2 (by omega) (P238b (rqE_0 (mis g4)))
        · have c4' : 0 ≤ rgR t (tks t n (k + 1 + 3)) ∧ (if rgR t (tks t n (k + 1 + 3)) < 16 then (0 : Int) else 1) = 0 := ⟨by omega, Classical.byContradiction fun z => c4 (Or.inr z)⟩
          have c16 : rgR t (tks t n (k + 1 + 3)) < 16 := Classical.byContradiction fun z => by
            have := c4'.2
            rw [if_neg z] at this
            cases this
          have r10 := rgR_r (t := t) (X := tks t n (k + 1 + 3))
          have k2 : tK (tks t n (k + 1 + 3)) = 2 := rgR_n (t := t) (by omega)
          rw [if_neg c4, T375g (x := 0) g4 (Or.inl rfl) ⟨c4'.1, Or.inr c4'.2⟩, and15' (by omega)]
          simp only [Option.bind_some, Option.toList_some, Option.toList_none, List.cons_append, List.nil_append]
          rw [e382_238, T358g g4.2.2]
          simp only [Option.bind_some, Option.toList_some, Option.toList_none, List.cons_append, List.nil_append]
          rw [e382_243, if_neg n10, T364 g4]
          simp only [Option.bind_some, Option.toList_some, Option.toList_none, List.cons_append, List.nil_append]
          rw [e382_250, e382_254]
          obtain ⟨R, hR⟩ : ∃ R, R = rgR t (tks t n (k + 1 + 3)) := ⟨_, rfl⟩
          rw [← hR]
          refine okc_b (T373g (RG_I g4 (by omega)) (by rw [k2]; decide)) fun τ5 p5 => ?_
          show okc (RR (lkB tb382) (B382_261, [some (mR (some 80)), some (mI x1), some (mI x2), none, none], [], τ5)) none (fun τ => oR (if ¬ (sgn (tks t n) 45 (k + 1 + 4) ∨ sgn (tks t n) 43 (k + 1 + 4)) then .inl (tB (tks t n (k + 1 + 4)) : Int) else bS (pNum (tks t n) (if mnS (tks t n) (k + 1 + 4) = 0 then iL 32767 else iL 32768) (k + 1 + 5)) fun _ => if ¬ sgn (tks t n) 41 (k + 1 + 6) then .inl (tB (tks t n (k + 1 + 6)) : Int) else .inr ((z, R, sgV (mnS (tks t n) (k + 1 + 4)) (tV (tks t n (k + 1 + 5)))), k + 1 + 7)) _ _)
          have f5 : rqP τ5 σ := rqP_t (rqP_W p5.1) (rqP_t (rqP_I ⟨by omega, by omega⟩) (rqP_W f4))
          have g5 : RG τ5 t n (k + 1 + 4) := p5.2
          have e34 : gI τ5 80 34 = R := by rw [p5.1.1 _ _ (by omega), gI_sI, if_pos ⟨rfl, rfl⟩]
          have e36 : gI τ5 80 36 = gI σ 80 36 := by rw [p5.1.1 _ _ (by omega), gI_sI, if_neg (by omega), f4.1 _ _ (by omega)]
          have e37 : gI τ5 80 37 = gI σ 80 37 := by rw [p5.1.1 _ _ (by omega), gI_sI, if_neg (by omega), f4.1 _ _ (by omega)]
          clear p5
          obtain ⟨M, hM⟩ : ∃ M, M = mnS (tks t n) (k + 1 + 4) := ⟨_, rfl⟩
          rw [← hM]
          -- the number
          have main : (sgn (tks t n) 45 (k + 1 + 4) ∨ sgn (tks t n) 43 (k + 1 + 4)) → okc (RR (lkB tb382) (B382_311, [some (mR (some 80)), some (mI x1), some (mI x2), some (mI M), none], [], τ5)) none (fun τ => oR (bS (pNum (tks t n) (if M = 0 then iL 32767 else iL 32768) (k + 1 + 5)) fun _ => if ¬ sgn (tks t n) 41 (k + 1 + 6) then .inl (tB (tks t n (k + 1 + 6)) : Int) else .inr ((z, R, sgV M (tV (tks t n (k + 1 + 5)))), k + 1 + 7)) (eR σ τ) (fun q => rqP τ σ ∧ RG τ t n q.2 ∧ q.1.1 = z ∧ gI τ 80 36 = gI σ 80 36 ∧ gI τ 80 37 = gI σ 80 37 ∧ gI τ 80 34 = q.1.2.1 ∧ gI τ 80 35 = lI q.1.2.2)) := fun cs => by
            rw [e382_311]
            refine okc_b (T373g g5 (by rcases cs with z | z <;> rw [z.1] <;> decide)) fun τ6 p6 => ?_
            show okc (RR (lkB tb382) (B382_315, [some (mR (some 80)), some (mI x1), some (mI x2), some (mI M), none], [], τ6)) none _
            have f6 : rqP τ6 σ := rqP_t (rqP_W p6.1) f5
            have g6 : RG τ6 t n (k + 1 + 5) := p6.2
            have hb := rqE_0 (mis g6)
            obtain ⟨Y, hY⟩ : ∃ Y, Y = if M = 0 then iL 32767 else iL 32768 := ⟨_, rfl⟩
            rw [e382_315, ← hY]
            by_cases c3 : tK (tks t n (k + 1 + 5)) = 3 ∧ tkS (tks t n (k + 1 + 5)) = 0
            · have s339 : RR (lkB tb382) (B382_319, [some (mR (some 80)), some (mI x1), some (mI x2), some (mI M), none], [], τ6) = RR (lkB tb382) (B382_339, [some (mR (some 80)), some (mI x1), some (mI x2), some (mI M), none], [mL Y], τ6) := by
                rw [e382_319, T358g g6.2.2]
                simp only [Option.bind_some, Option.toList_some, Option.toList_none, List.cons_append, List.nil_append]
                rw [e382_323, if_neg n10, hY]
                by_cases cm : M = 0
                · rw [if_pos cm, if_pos cm]
                · rw [if_neg cm, if_neg cm]
              rw [T372g g6 c3]
              simp only [Option.bind_some, Option.toList_some, Option.toList_none, List.cons_append, List.nil_append]
              rw [s339, e382_339, T389, RG_12 g6 c3.1]
              simp only [Option.bind_some, Option.toList_some, Option.toList_none, List.cons_append, List.nil_append]
              rw [e382_346]
              unfold pNum
              by_cases cl : Y < tV (tks t n (k + 1 + 5))
              · rw [b2_yes cl, if_neg n10, if_neg (show ¬ (tK (tks t n (k + 1 + 5)) = 3 ∧ tkS (tks t n (k + 1 + 5)) = 0 ∧ ¬ Y < tV (tks t n (k + 1 + 5))) from fun z => z.2.2 cl), T359g g6.2.2, RG_10 g6]
                simp only [Option.bind_some, Option.toList_some, Option.toList_none, List.cons_append, List.nil_append]
                exact wr_e (rfr_t rfr_14 (rfr_P f6)) (mis g6).2 (by omega) (P357b hb)
              · rw [b2_no cl, if_pos y00, if_pos (show tK (tks t n (k + 1 + 5)) = 3 ∧ tkS (tks t n (k + 1 + 5)) = 0 ∧ ¬ Y < tV (tks t n (k + 1 + 5)) from ⟨c3.1, c3.2, cl⟩), e382_357, RG_12 g6 c3.1]
                obtain ⟨V, hV⟩ : ∃ V, V = sgV M (tV (tks t n (k + 1 + 5))) := ⟨_, rfl⟩
                rw [← hV]
                have s374 : okc (RR (lkB tb382) (B382_374, [some (mR (some 80)), some (mI x1), some (mI x2), some (mI M), none], [mL V, mR (some 80)], τ6)) none (fun τ => oR (if ¬ sgn (tks t n) 41 (k + 1 + 6) then .inl (tB (tks t n (k + 1 + 6)) : Int) else .inr ((z, R, V), k + 1 + 7)) (eR σ τ) (fun q => rqP τ σ ∧ RG τ t n q.2 ∧ q.1.1 = z ∧ gI τ 80 36 = gI σ 80 36 ∧ gI τ 80 37 = gI σ 80 37 ∧ gI τ 80 34 = q.1.2.1 ∧ gI τ 80 35 = lI q.1.2.2)) := by
                  rw [e382_374]
                  refine okc_b (T373g (RG_I g6 (by omega)) (by rw [c3.1]; decide)) fun τ7 p7 => ?_
                  show okc (RR (lkB tb382) (B382_382, [some (mR (some 80)), some (mI x1), some (mI x2), some (mI M), none], [], τ7)) none _
                  have f7 : rqP τ7 σ := rqP_t (rqP_W p7.1) (rqP_t (rqP_I ⟨by omega, by omega⟩) f6)
                  have g7 : RG τ7 t n (k + 1 + 6) := p7.2
                  rw [e382_382]
                  by_cases c7 : sgn (tks t n) 41 (k + 1 + 6)
                  · rw [if_neg (show ¬ ¬ sgn (tks t n) 41 (k + 1 + 6) from fun z => z c7)]
                    refine okc_b (T361g g7 c7) fun τ8 p8 => ?_
                    show okc (RR (lkB tb382) (B382_388, [some (mR (some 80)), some (mI x1), some (mI x2), some (mI M), none], [], τ8)) none _
                    rw [e382_388]
                    refine okc_s ⟨rqP_t (rqP_W p8.1) f7, p8.2, rfl, ?_, ?_, ?_, ?_⟩
                    · rw [p8.1.1 _ _ (by omega), p7.1.1 _ _ (by omega), gI_sI, if_neg (by omega), p6.1.1 _ _ (by omega), e36]
                    · rw [p8.1.1 _ _ (by omega), p7.1.1 _ _ (by omega), gI_sI, if_neg (by omega), p6.1.1 _ _ (by omega), e37]
                    · rw [p8.1.1 _ _ (by omega), p7.1.1 _ _ (by omega), gI_sI, if_neg (by omega), p6.1.1 _ _ (by omega), e34]
                    · rw [p8.1.1 _ _ (by omega), p7.1.1 _ _ (by omega), gI_sI, if_pos ⟨rfl, rfl⟩]
                  · rw [if_pos (show ¬ sgn (tks t n) 41 (k + 1 + 6) from c7), T361e g7 c7]
                    simp only [Option.bind_some, Option.toList_some, Option.toList_none, List.cons_append, List.nil_append]
                    rw [e382_388]
                    exact okc_s (eR_m g7 (rfr_P f7))
                unfold sgV at hV
                by_cases cm : M = 0
                · rw [if_pos cm] at hV
                  rw [if_pos cm, ← hV]
                  exact s374
                · rw [if_neg cm] at hV
                  rw [if_neg cm, ← hV]
                  exact s374
            · have pn : pNum (tks t n) Y (k + 1 + 5) = .inl (tB (tks t n (k + 1 + 5)) : Int) := if_neg (fun z => c3 ⟨z.1, z.2.1⟩)
              rw [pn, T372e g6 c3]
              simp only [Option.bind_some, Option.toList_some, Option.toList_none, List.cons_append, List.nil_append]
              rw [e382_319, T358b hb]
              simp only [Option.bind_some, Option.toList_some, Option.toList_none, List.cons_append, List.nil_append]
              rw [e382_323, if_pos y00]
              exact wr_e (rfr_t rfr_14 (rfr_P f6)) (mis g6).2 (by omega) (P357b hb)
          rw [e382_261, T358g g5.2.2]
          simp only [Option.bind_some, Option.toList_some, Option.toList_none, List.cons_append, List.nil_append]
          rw [e382_265, if_neg n10, T360 g5]
          simp only [Option.bind_some, Option.toList_some, Option.toList_none, List.cons_append, List.nil_append]
          have s282 : RR (lkB tb382) (B382_274, [some (mR (some 80)), some (mI x1), some (mI x2), none, none], [mI (b2 (sgn (tks t n) 45 (k + 1 + 4)))], τ5) = RR (lkB tb382) (B382_287, [some (mR (some 80)), some (mI x1), some (mI x2), some (mI M), none], [mI 1], τ5) := by
            rw [e382_274, e382_281]
            by_cases cs : sgn (tks t n) 45 (k + 1 + 4)
            · rw [b2_yes cs, if_neg n10, e382_282, T358g g5.2.2, hM, (mn_1 cs).1]
              simp only [Option.bind_some, Option.toList_some, Option.toList_none, List.cons_append, List.nil_append]
            · rw [b2_no cs, if_pos y00, e382_282, T358g g5.2.2, hM, (mn_0 cs).1]
              simp only [Option.bind_some, Option.toList_some, Option.toList_none, List.cons_append, List.nil_append]
          rw [s282, e382_287, if_neg n10]
          by_cases cs : sgn (tks t n) 45 (k + 1 + 4)
          · have := (mn_1 cs).1
            rw [if_pos (show ¬ M = 0 by omega), if_neg (show ¬ ¬ (sgn (tks t n) 45 (k + 1 + 4) ∨ sgn (tks t n) 43 (k + 1 + 4)) from fun z => z (Or.inl cs))]
            exact main (Or.inl cs)
          · have := (mn_0 cs).1
            rw [if_neg (show ¬ ¬ M = 0 by omega), T360 g5]
            simp only [Option.bind_some, Option.toList_some, Option.toList_none, List.cons_append, List.nil_append]
            rw [e382_300]
            by_cases cp : sgn (tks t n) 43 (k + 1 + 4)
            · rw [b2_yes cp, if_pos n10, if_neg (show ¬ ¬ (sgn (tks t n) 45 (k + 1 + 4) ∨ sgn (tks t n) 43 (k + 1 + 4)) from fun z => z (Or.inr cp))]
              exact main (Or.inr cp)
            · rw [b2_no cp, if_neg (fun z => z y00), if_pos (show ¬ (sgn (tks t n) 45 (k + 1 + 4) ∨ sgn (tks t n) 43 (k + 1 + 4)) from fun z => z.elim cs cp), T359g g5.2.2, RG_10 g5]
              simp only [Option.bind_some, Option.toList_some, Option.toList_none, List.cons_append, List.nil_append]
              exact wr_e (rfr_t rfr_14 (rfr_P f5)) (mis g5).2 (by omega) (P311b (rqE_0 (mis g5)))
      · rw [if_pos (show ¬ sgn (tks t n) 40 (k + 1 + 2) from c3), T361e p3.2 c3]
        simp only [Option.bind_some, Option.toList_some, Option.toList_none, List.cons_append, List.nil_append]
        exact wr_e (rfr_t rfr_14 (rfr_W (rqW_t p3.1 (rqW_t p2.1 p1.1)))) (mis p3.2).2 (by omega) (P232b (rqE_0 (mis p3.2)))
    · rw [if_pos (show ¬ sgn (tks t n) 41 (k + 1 + 1) from c2), T361e p2.2 c2]
      simp only [Option.bind_some, Option.toList_some, Option.toList_none, List.cons_append, List.nil_append]
      exact wr_e (rfr_t rfr_14 (rfr_W (rqW_t p2.1 p1.1))) (mis p2.2).2 (by omega) (P226b (rqE_0 (mis p2.2)))
  · rw [if_pos (show ¬ sgn (tks t n) 42 (k + 1) from c1), T361e p1.2 c1]
    simp only [Option.bind_some, Option.toList_some, Option.toList_none, List.cons_append, List.nil_append]
    exact wr_e (rfr_t rfr_14 (rfr_W p1.1)) (mis p1.2).2 (by omega) (P220b (rqE_0 (mis p1.2)))
end RPT
