/-! ===== the class's reader: a line ===== -/
section CLI
variable {t : Nat → Int} {n i j k m l M : Nat} {σ τ ρ υ : MS} {c d e o w x y z a r op f im : Int} {v W Y V : B64} {s : RD}
theorem cRD_f (h : cRD m σ s) (f : ccq τ σ) : cRD m τ s := by
  obtain ⟨⟨r1, r2⟩, ⟨r3, r4⟩, r5, r6⟩ := h
  refine ⟨⟨(f.1 _ _ (by omega)).trans r1, fun l hl => ?_⟩, ⟨(f.1 _ _ (by omega)).trans r3, fun u hu => ?_⟩, (f.1 _ _ (by omega)).trans r5, fun i hi => (f.2.1 _ _ (by omega)).trans (r6 i hi)⟩
  · rw [f.1 _ _ (by omega), f.1 _ _ (by omega)]
    exact r2 l hl
  · rw [f.1 _ _ (by omega), f.1 _ _ (by omega)]
    exact r4 u hu
/-- behind a statement -/
theorem A241 {p : Int ⊕ (SR × Nat)} {x1 x3 : Int} (hp : p = pStm t (tks t n) s.2.2.2) (g : cG ρ t n m s.2.2.2) (hr : cRD m ρ s) (i1 : s.2.2.1.1 ≤ 200 ∧ s.2.1.1 ≤ s.2.2.1.1) (fr : cfa ρ σ) (h : oR p (cE ρ τ) (cST m ρ τ)) : okc (if rVc p = 0 then some (some (mI 0), τ) else RR (lkB tb150) (B150_241, [some (mR (some 18)), some (mI x1), some (mI (s.2.2.2 : Int)), some (mI x3)], [], τ)) (some (mI (rVc (pSta t (tks t n) s)))) (fun τ => oR (pSta t (tks t n) s) (fun e => cfa τ σ ∧ gI τ 18 9 = e ∧ 0 ≤ e) (fun s' => cfa τ σ ∧ cRD m τ s' ∧ cG τ t n m s'.2.2.2)) := by
  unfold pSta pSt2
  rw [← hp]
  cases p with
  | inl e =>
    show okc (if (0 : Int) = 0 then _ else _) (some (mI 0)) _
    rw [if_pos y00]
    exact okc_s ⟨cfa_t (cfa_c h.1) fr, h.2⟩
  | inr q =>
    obtain ⟨c1, ⟨c2, c3, c4⟩, c5, c6, c7, c8, c9', c10⟩ := h
    have g2 : cG τ t n m q.2 := cG_q g c1 c2 c3 c4
    have km := cG_m g2
    obtain ⟨a1, a2, -⟩ := cG_tk g2 c3
    show okc (if (1 : Int) = 0 then _ else _) _ _
    rw [if_neg n10, bS_r, e150_241, g2.2.1, if_pos (g20' km), if_pos (g20' km), Int.toNat_natCast, a1]
    have s273 : (tK (tks t n q.2) = 1 ∨ tK (tks t n q.2) = 0) → okc (RR (lkB tb150) (B150_273, [some (mR (some 18)), some (mI x1), some (mI (s.2.2.2 : Int)), some (mI x3)], [], τ)) (some (mI (rVc (bS (if ¬ (tK (tks t n q.2) = 1 ∨ tK (tks t n q.2) = 0) then .inl (tB (tks t n q.2) : Int) else @ite _ (okF q.1 s.2.2.1.1) (Classical.propDecidable _) (.inr q) (.inl (tB (tks t n s.2.2.2) : Int))) fun q => .inr (updS s q))))) (fun τ => oR (bS (if ¬ (tK (tks t n q.2) = 1 ∨ tK (tks t n q.2) = 0) then .inl (tB (tks t n q.2) : Int) else @ite _ (okF q.1 s.2.2.1.1) (Classical.propDecidable _) (.inr q) (.inl (tB (tks t n s.2.2.2) : Int))) fun q => .inr (updS s q)) (fun e => cfa τ σ ∧ gI τ 18 9 = e ∧ 0 ≤ e) (fun s' => cfa τ σ ∧ cRD m τ s' ∧ cG τ t n m s'.2.2.2)) := fun hk => by
      have hw : ∀ j, q.1.2.2 = some j → j ≤ m := fun j hj => by
        have := (stm_w hp.symm hj).1
        omega
      obtain ⟨T1, T2⟩ := T153 (cRD_f hr c1) i1 c5 c6 c7 c8 c9' c10 hw
      rw [if_neg (show ¬ ¬ (tK (tks t n q.2) = 1 ∨ tK (tks t n q.2) = 0) from fun z => z hk), e150_273]
      by_cases ok : okF q.1 s.2.2.1.1
      · obtain ⟨υ, e, p⟩ := T1 ok
        rw [if_pos ok, bS_r, e]
        simp only [Option.bind_some, Option.toList_some, Option.toList_none, List.cons_append, List.nil_append]
        rw [e150_277, if_pos n10]
        obtain ⟨p1, p2, p3, p4⟩ := p
        exact okc_s ⟨cfa_t p2 (cfa_t (cfa_c c1) fr), p1, cG_f g2 p2 (p3.trans c2) c3 (p4.trans c4)⟩
      · have sm := g.2.2.1
        have sk := cG_m g
        obtain ⟨b1, b2', -⟩ := cG_tk g2 sm
        rw [if_neg ok, bS_l, T2 ok]
        simp only [Option.bind_some, Option.toList_some, Option.toList_none, List.cons_append, List.nil_append]
        rw [e150_277, if_neg (fun z => z y00), if_pos (g21' sk), Int.toNat_natCast, b2']
        refine okc_s ⟨cfa_t (cfa_c (ccq_I (by omega))) (cfa_t (cfa_c c1) fr), c9, by omega⟩
    by_cases k1 : tK (tks t n q.2) = 1
    · have k5 : kC (tks t n q.2) = 5 := by rw [kc_5']; exact k1
      rw [if_pos k5]
      exact s273 (Or.inl k1)
    · have k5 : ¬ kC (tks t n q.2) = 5 := by rw [kc_5']; exact k1
      rw [if_neg k5]
      by_cases k0 : tK (tks t n q.2) = 0
      · have k6 : kC (tks t n q.2) = 6 := by rw [kc_6']; exact k0
        rw [if_pos k6]
        exact s273 (Or.inr k0)
      · have k6 : ¬ kC (tks t n q.2) = 6 := by rw [kc_6']; exact k0
        rw [if_neg k6, if_pos (show ¬ (tK (tks t n q.2) = 1 ∨ tK (tks t n q.2) = 0) from fun z => z.elim k1 k0), bS_l, T144 g2]
        simp only [Option.bind_some, Option.toList_some, Option.toList_none, List.cons_append, List.nil_append]
        rw [e150_272, if_pos bl0]
        exact okc_s ⟨cfa_t (cfa_c (ccq_I (by omega))) (cfa_t (cfa_c c1) fr), c9, by omega⟩
/-- a statement of a line -/
theorem A133 {x1 : Int} (g : cG ρ t n m s.2.2.2) (hr : cRD m ρ s) (i1 : s.2.2.1.1 ≤ 200 ∧ s.2.1.1 ≤ s.2.2.1.1) (fr : cfa ρ σ) (k1 : ¬ tK (tks t n s.2.2.2) = 1) (k0 : ¬ tK (tks t n s.2.2.2) = 0) : okc (RR (lkB tb150) (B150_133, [some (mR (some 18)), some (mI x1), none, none], [], ρ)) (some (mI (rVc (pSta t (tks t n) s)))) (fun τ => oR (pSta t (tks t n) s) (fun e => cfa τ σ ∧ gI τ 18 9 = e ∧ 0 ≤ e) (fun s' => cfa τ σ ∧ cRD m τ s' ∧ cG τ t n m s'.2.2.2)) := by
  obtain ⟨a1, a2, -⟩ := cG_tk g g.2.2.1
  have km := cG_m g
  have k5 : ¬ kC (tks t n s.2.2.2) = 5 := by rw [kc_5']; exact k1
  have k6 : ¬ kC (tks t n s.2.2.2) = 6 := by rw [kc_6']; exact k0
  rw [e150_133, g.2.1, if_pos (g20' km), if_pos (g20' km), Int.toNat_natCast, a1, if_neg k5, if_pos k6, e150_182]
  obtain ⟨ρ2, hρ⟩ : ∃ ρ2, ρ2 = sI (sI (sI (sL (sL ρ 18 14 (BitVec.ofNat 64 0)) 18 15 (BitVec.ofNat 64 0)) 18 16 0) 18 17 0) 18 18 (-1) := ⟨_, rfl⟩
  have f2 : ccq ρ2 ρ := by rw [hρ]; exact ccq_t (ccq_I (by omega)) (ccq_t (ccq_I (by omega)) (ccq_t (ccq_I (by omega)) (ccq_t (ccq_L (by omega)) (ccq_L (by omega)))))
  have e8 : gI ρ2 18 8 = (s.2.2.2 : Int) := by rw [hρ, gI_sI, if_neg (by omega), gI_sI, if_neg (by omega), gI_sI, if_neg (by omega), gI_sL, gI_sL, g.2.1]
  have e9 : gI ρ2 18 9 = -1 := by rw [hρ, gI_sI, if_neg (by omega), gI_sI, if_neg (by omega), gI_sI, if_neg (by omega), gI_sL, gI_sL, g.2.2.2]
  have z2 : cZ0 ρ2 := by
    refine ⟨?_, ?_, ?_, ?_⟩
    · rw [hρ, gI_sI, if_neg (by omega), gI_sI, if_neg (by omega), gI_sI, if_pos ⟨rfl, rfl⟩]
    · rw [hρ, gI_sI, if_neg (by omega), gI_sI, if_pos ⟨rfl, rfl⟩]
    · rw [hρ, gI_sI, if_pos ⟨rfl, rfl⟩]
    · rw [hρ, gL_sI, gL_sI, gL_sI, gL_sL, if_pos ⟨rfl, rfl⟩]
      rfl
  have w2 : gL ρ2 18 14 = 0#64 := by rw [hρ, gL_sI, gL_sI, gL_sI, gL_sL, if_neg (by omega), gL_sL, if_pos ⟨rfl, rfl⟩]
  have g2 : cG ρ2 t n m s.2.2.2 := cG_q g f2 e8 g.2.2.1 e9
  rw [← hρ, T149 g2]
  clear hρ
  simp only [Option.bind_some, Option.toList_some, Option.toList_none, List.cons_append, List.nil_append]
  rw [e150_196]
  have fin := fun (p : Int ⊕ (SR × Nat)) (hp : p = pStm t (tks t n) s.2.2.2) (τ : MS) (x3 : Int) (h : oR p (cE ρ2 τ) (cST m ρ2 τ)) => A241 (x1 := x1) (x3 := x3) (σ := σ) hp g2 (cRD_f hr f2) i1 (cfa_t (cfa_c f2) fr) h
  have rr := rgR_r (t := t) (X := tks t n s.2.2.2)
  by_cases rg : rgR t (tks t n s.2.2.2) = -1
  · rw [if_pos rg, T147 (s := 42) g2 (by decide) (by decide)]
    simp only [Option.bind_some, Option.toList_some, Option.toList_none, List.cons_append, List.nil_append]
    rw [e150_219]
    by_cases c1 : sgn (tks t n) 42 s.2.2.2
    · obtain ⟨τ, e, p⟩ := T175 g2 z2 w2
      rw [b2_yes c1, if_neg n10, e]
      simp only [Option.bind_some, Option.toList_some, Option.toList_none, List.cons_append, List.nil_append]
      rw [e150_226]
      exact fin _ (by rw [stm_e, if_neg (by omega), if_pos c1]) τ _ p
    · obtain ⟨τ, e, p⟩ := T156 g2 z2 w2
      rw [b2_no c1, if_pos y00, e]
      simp only [Option.bind_some, Option.toList_some, Option.toList_none, List.cons_append, List.nil_append]
      rw [e150_236]
      have f := fin _ (by rw [stm_e, if_neg (by omega), if_neg c1]) τ (rgR t (tks t n s.2.2.2)) p
      by_cases y : rVc (pNmd t (tks t n) s.2.2.2) = 0
      · rw [if_pos y] at f
        rw [if_neg (fun z => z y)]
        exact f
      · rw [if_neg y] at f
        rw [if_pos y]
        exact f
  · obtain ⟨τ, e, p⟩ := T165 g2 z2 rfl (show 0 ≤ rgR t (tks t n s.2.2.2) by omega)
    rw [if_neg rg, e]
    simp only [Option.bind_some, Option.toList_some, Option.toList_none, List.cons_append, List.nil_append]
    rw [e150_207]
    exact fin _ (by rw [stm_e, if_pos (by omega)]) τ _ p
end CLI
