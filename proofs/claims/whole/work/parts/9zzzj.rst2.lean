/-! ===== the reference: lock .., if, call ===== -/
section RSU
variable {t : Nat → Int} {n i j k m u : Nat} {σ τ ρ υ : MS} {c d e o w x x1 x2 x3 x4 y s r B : Int} {v : B64} {q : B64 × Int} {T : TK}
theorem A201b (h : 0 ≤ gI τ 80 14) : okc (RR (lkB tb384) (B384_201, [some (mR (some 80)), some (mI x1), some (mI x2), some (mI x3), none], [mI y, mR (some 80)], τ)) none (fun υ => rfr υ τ ∧ gI υ 80 14 = gI τ 80 14) := by
  rw [e384_201, T373b (b14 (by omega) h)]
  simp only [Option.bind_some, Option.toList_some, Option.toList_none, List.cons_append, List.nil_append]
  rw [e384_208]
  exact bd_I ⟨by omega, by omega⟩ (okc_s ⟨rfr_r _, rfl⟩)
theorem A185b (h : 0 ≤ gI τ 80 14) : okc (RR (lkB tb384) (B384_185, [some (mR (some 80)), some (mI x1), some (mI x2), some (mI x3), none], [], τ)) none (fun υ => rfr υ τ ∧ gI υ 80 14 = gI τ 80 14) := by
  rw [e384_185, T358b h]
  simp only [Option.bind_some, Option.toList_some, Option.toList_none, List.cons_append, List.nil_append]
  rw [e384_190, if_pos y00]
  exact A201b h
theorem A179b (h : 0 ≤ gI τ 80 14) : okc (RR (lkB tb384) (B384_179, [some (mR (some 80)), some (mI x1), some (mI x2), some (mI x3), none], [], τ)) none (fun υ => rfr υ τ ∧ gI υ 80 14 = gI τ 80 14) := by
  rw [e384_179, T375b h]
  simp only [Option.bind_some, Option.toList_some, Option.toList_none, List.cons_append, List.nil_append]
  exact A185b h
theorem A139b (h : 0 ≤ gI τ 80 14) : okc (RR (lkB tb384) (B384_139, [some (mR (some 80)), some (mI x1), some (mI x2), some (mI x3), some (mI x4)], [], τ)) none (fun υ => rfr υ τ ∧ gI υ 80 14 = gI τ 80 14) := by
  have s : ∀ y : Int, okc (RR (lkB tb384) (B384_151, [some (mR (some 80)), some (mI x1), some (mI x2), some (mI x3), some (mI x4)], [mI y, mI x4, mR (some 80)], τ)) none (fun υ => rfr υ τ ∧ gI υ 80 14 = gI τ 80 14) := fun y => by
    rw [e384_151, T373b (b14 (by omega) h)]
    simp only [Option.bind_some, Option.toList_some, Option.toList_none, List.cons_append, List.nil_append]
    rw [e384_159]
    exact okc_q (by repeat (first | exact lq_nil | refine lq_cons (Or.inr rfl) ?_ | refine lq_cons (Or.inl rfl) ?_)) (bd_I ⟨by omega, by omega⟩ (A179b (b14 (by omega) h)))
  rw [e384_139]
  by_cases c : x2 = 0
  · rw [if_pos c]; exact s 0
  · rw [if_neg c]; exact s 1
theorem A61b (h : 0 ≤ gI τ 80 14) : okc (RR (lkB tb384) (B384_61, [some (mR (some 80)), some (mI x1), some (mI x2), some (mI x3), none], [], τ)) none (fun υ => rfr υ τ ∧ gI υ 80 14 = gI τ 80 14) := by
  have s69 : okc (RR (lkB tb384) (B384_69, [some (mR (some 80)), some (mI x1), some (mI x2), some (mI x3), none], [], τ)) none (fun υ => rfr υ τ ∧ gI υ 80 14 = gI τ 80 14) := by
    rw [e384_69, T358b h]
    simp only [Option.bind_some, Option.toList_some, Option.toList_none, List.cons_append, List.nil_append]
    rw [e384_73, if_pos y00, e384_94, e384_95, T358b h]
    simp only [Option.bind_some, Option.toList_some, Option.toList_none, List.cons_append, List.nil_append]
    rw [e384_101, if_pos y00]
    exact A139b h
  have s176 : ∀ y : Int, okc (RR (lkB tb384) (B384_176, [some (mR (some 80)), some (mI x1), some (mI x2), some (mI x3), none], [mI y, mR (some 80)], τ)) none (fun υ => rfr υ τ ∧ gI υ 80 14 = gI τ 80 14) := fun y => by
    rw [e384_176]
    exact bd_I ⟨by omega, by omega⟩ (A179b (b14 (by omega) h))
  rw [e384_61]
  by_cases c1 : x1 = 0
  · rw [if_neg (fun z => z c1)]
    by_cases c2 : x2 = 0
    · rw [if_pos c2]
      by_cases c3 : x3 = 0
      · rw [if_pos c3]; exact s176 _
      · rw [if_neg c3]; exact s176 _
    · rw [if_neg c2]
      exact s69
  · rw [if_pos c1]
    exact s69
theorem A33b (h : 0 ≤ gI τ 80 14) : okc (RR (lkB tb384) (B384_33, [some (mR (some 80)), some (mI x1), some (mI x2), some (mI x3), none], [], τ)) none (fun υ => rfr υ τ ∧ gI υ 80 14 = gI τ 80 14) := by
  rw [e384_33]
  generalize gI (sI (sI τ 80 26 (iOr 195 (gI τ 80 36))) 80 27 (gI (sI τ 80 26 (iOr 195 (gI τ 80 36))) 80 34)) 80 35 = a
  generalize gI (sI τ 80 26 (iOr 195 (gI τ 80 36))) 80 34 = b
  generalize iOr 195 (gI τ 80 36) = c
  exact bd_I ⟨by omega, by omega⟩ (bd_I ⟨by omega, by omega⟩ (bd_I ⟨by omega, by omega⟩ (A61b (b14 (by omega) (b14 (by omega) (b14 (by omega) h))))))
/-- lock, fetch, xchg, cmpxchg -/
theorem T384 {g : Prop} {dg : Decidable g} {X : Int} (h : RG σ t n k) (z : stO_ σ) (k2 : tK (tks t n k) = 2) (e1 : b2 (nmP' t (tks t n k) 56) = x1) (e2 : b2 (nmP' t (tks t n k) 57) = x2) (e3 : b2 (nmP' t (tks t n k) 58) = x3) (hg : g ↔ (¬ x1 = 0 ∨ ¬ x2 = 0)) (hx : g → X = if x2 = 0 then 0 else 1) (hx' : ¬ g → X = if x3 = 0 then 241 else 225) : okc (MM 384 [mR (some 80)] σ) none (fun τ => oR (pAtm t (tks t n) g dg X k) (eR σ τ) (stP t n σ τ)) := by
  unfold pAtm
  rw [M384, e384_0, N362 h (by decide)]
  simp only [Option.bind_some, Option.toList_some, Option.toList_none, List.cons_append, List.nil_append]
  rw [e384_7, N362 h (by decide)]
  simp only [Option.bind_some, Option.toList_some, Option.toList_none, List.cons_append, List.nil_append]
  rw [e384_15, N362 h (by decide)]
  simp only [Option.bind_some, Option.toList_some, Option.toList_none, List.cons_append, List.nil_append]
  rw [e384_23, e1, e2, e3]
  refine okc_b (A355 h (by rw [k2]; decide)) fun τ0 p0 => ?_
  show okc (RR (lkB tb384) (B384_28, [some (mR (some 80)), some (mI x1), some (mI x2), some (mI x3), none], [], τ0)) none _
  rw [e384_28]
  refine okc_b (T382 (x := 0) p0.2) fun τ1 p1 => ?_
  show okc (RR (lkB tb384) (B384_33, [some (mR (some 80)), some (mI x1), some (mI x2), some (mI x3), none], [], τ1)) none _
  cases hp : pPtr t (tks t n) 0 (k + 1) with
  | inl e =>
    rw [hp] at p1
    have hb : 0 ≤ gI τ1 80 14 := by rw [p1.2.1]; exact p1.2.2
    exact wr_e (rfr_t p1.1 (rfr_W p0.1)) p1.2.1 p1.2.2 (A33b hb)
  | inr q =>
    rw [hp] at p1
    obtain ⟨q1, g1, ⟨q3, q4⟩, q5, q6⟩ := p1
    obtain ⟨⟨Z, R, V⟩, J⟩ := q
    have g1 : RG τ1 t n J := g1
    have q3 : gI τ1 80 36 = iAnd Z 24 := q3
    have q5 : gI τ1 80 34 = R := q5
    have q6 : gI τ1 80 35 = lI V := q6
    show okc (RR (lkB tb384) (B384_33, [some (mR (some 80)), some (mI x1), some (mI x2), some (mI x3), none], [], τ1)) none (fun τ => oR (if g then (if ¬ (opT (tks t n J) = 0 ∨ opT (tks t n J) = 64 ∨ opT (tks t n J) = 80 ∨ opT (tks t n J) = 160) then .inl (tB (tks t n J) : Int) else bS (pRgt t (tks t n) 0 (J + 1)) fun u => .inr (((iOr 195 (iAnd Z 24), R, u.1, lI V, opT (tks t n J) + X), (0, 0, 0), none), u.2)) else (bS (pRgt t (tks t n) 0 J) fun u => .inr (((iOr 195 (iAnd Z 24), R, u.1, lI V, X), (0, 0, 0), none), u.2))) (eR σ τ) (stP t n σ τ))
    have z1 : stO_ τ1 := stO_q (stO_W z p0.1) fun s a b => q1.1 _ _ (by omega)
    have e34 : gI (sI τ1 80 26 (iOr 195 (iAnd Z 24))) 80 34 = R := by rw [fO_ (by decide)]; exact q5
    have e35 : gI (sI (sI τ1 80 26 (iOr 195 (iAnd Z 24))) 80 27 R) 80 35 = lI V := by rw [fO_ (by decide), fO_ (by decide)]; exact q6
    rw [e384_33, q3, e34, e35]
    obtain ⟨ρ, hρ⟩ : ∃ ρ, ρ = sI (sI (sI τ1 80 26 (iOr 195 (iAnd Z 24))) 80 27 R) 80 29 (lI V) := ⟨_, rfl⟩
    have fρ : rfn ρ σ := by rw [hρ]; exact rfn_t (rfn_I ⟨by omega, by omega⟩) (rfn_t (rfn_I ⟨by omega, by omega⟩) (rfn_t (rfn_I ⟨by omega, by omega⟩) (rfn_t (rfn_P q1) (rfn_W p0.1))))
    have gρ : RG ρ t n J := by rw [hρ]; exact RG_I (RG_I (RG_I g1 (by omega)) (by omega)) (by omega)
    have v26 : gI ρ 80 26 = iOr 195 (iAnd Z 24) := by rw [hρ, fO_ (by decide), fO_ (by decide), fS_]
    have v27 : gI ρ 80 27 = R := by rw [hρ, fO_ (by decide), fS_]
    have v29 : gI ρ 80 29 = lI V := by rw [hρ, fS_]
    have v31 : gI ρ 80 31 = 0 := by rw [hρ, fO_ (by decide), fO_ (by decide), fO_ (by decide)]; exact z1.2.2.2.2.2.1
    have v33 : gI ρ 80 33 = 0 := by rw [hρ, fO_ (by decide), fO_ (by decide), fO_ (by decide)]; exact z1.2.2.2.2.2.2
    rw [← hρ]
    -- the register at the end
    have s179 : ∀ (j : Nat) (Y : Int) (τ2 : MS), RG τ2 t n j → rfn τ2 ρ → gI τ2 80 26 = iOr 195 (iAnd Z 24) → gI τ2 80 27 = R → gI τ2 80 29 = lI V → gI τ2 80 30 = Y → gI τ2 80 31 = 0 → gI τ2 80 33 = 0 → okc (RR (lkB tb384) (B384_179, [some (mR (some 80)), some (mI x1), some (mI x2), some (mI x3), none], [], τ2)) none (fun τ => oR (bS (pRgt t (tks t n) 0 j) fun u => .inr (((iOr 195 (iAnd Z 24), R, u.1, lI V, Y), (0, 0, 0), none), u.2)) (eR σ τ) (stP t n σ τ)) := fun j Y τ2 g2 f2 a26 a27 a29 a30 a31 a33 => by
      rw [e384_179]
      unfold pRgt
      by_cases cr : rgR t (tks t n j) < 0 ∨ ¬ (if rgR t (tks t n j) < 16 then (0 : Int) else 1) = 0
      · have hb := rqE_0 (mis g2)
        rw [if_pos cr, T375e (x := 0) g2 (fun z => cr.elim (fun a => by have := z.1; omega) (fun a => z.2.elim (fun b => b rfl) a))]
        simp only [Option.bind_some, Option.toList_some, Option.toList_none, List.cons_append, List.nil_append]
        exact wr_e (rfr_t rfr_14 (rfr_n (rfn_t f2 fρ))) (mis g2).2 (by omega) (A185b hb)
      · have cr1 : 0 ≤ rgR t (tks t n j) := by omega
        have cr2 : (if rgR t (tks t n j) < 16 then (0 : Int) else 1) = 0 := Classical.byContradiction fun z => cr (Or.inr z)
        have c16 : rgR t (tks t n j) < 16 := Classical.byContradiction fun z => by
          rw [if_neg z] at cr2
          cases cr2
        have rr := rgR_r (t := t) (X := tks t n j)
        have kk : tK (tks t n j) = 2 := rgR_n (t := t) (by omega)
        rw [if_neg cr, T375g (x := 0) g2 (Or.inl rfl) ⟨cr1, Or.inr cr2⟩, and15' (by omega)]
        simp only [Option.bind_some, Option.toList_some, Option.toList_none, List.cons_append, List.nil_append]
        rw [e384_185, T358g g2.2.2]
        simp only [Option.bind_some, Option.toList_some, Option.toList_none, List.cons_append, List.nil_append]
        rw [e384_190, if_neg n10, T364 g2]
        simp only [Option.bind_some, Option.toList_some, Option.toList_none, List.cons_append, List.nil_append]
        rw [e384_197, e384_201]
        refine okc_b (T373g (RG_I g2 (by omega)) (by rw [kk]; decide)) fun τ3 p3 => ?_
        show okc (RR (lkB tb384) (B384_208, [some (mR (some 80)), some (mI x1), some (mI x2), some (mI x3), none], [], τ3)) none _
        rw [e384_208]
        refine okc_s (stP_k (rfn_t (rfn_W p3.1) (rfn_t (rfn_I ⟨by omega, by omega⟩) (rfn_t f2 fρ))) p3.2 ⟨?_, ?_, ?_, ?_, ?_⟩ ⟨?_, (fun a => (a.elim (fun a => absurd rfl a) (fun a => absurd rfl a))), ?_⟩ rfl)
        · rw [p3.1.1 _ _ (by omega), fO_ (by decide)]; exact a26
        · rw [p3.1.1 _ _ (by omega), fO_ (by decide)]; exact a27
        · rw [p3.1.1 _ _ (by omega), fS_]
        · rw [p3.1.1 _ _ (by omega), fO_ (by decide)]; exact a29
        · rw [p3.1.1 _ _ (by omega), fO_ (by decide)]; exact a30
        · rw [p3.1.1 _ _ (by omega), fO_ (by decide)]; exact a31
        · rw [p3.1.1 _ _ (by omega), fO_ (by decide)]; exact a33
    -- the sign
    have s69 : g → okc (RR (lkB tb384) (B384_69, [some (mR (some 80)), some (mI x1), some (mI x2), some (mI x3), none], [], ρ)) none (fun τ => oR (if ¬ (opT (tks t n J) = 0 ∨ opT (tks t n J) = 64 ∨ opT (tks t n J) = 80 ∨ opT (tks t n J) = 160) then .inl (tB (tks t n J) : Int) else bS (pRgt t (tks t n) 0 (J + 1)) fun u => .inr (((iOr 195 (iAnd Z 24), R, u.1, lI V, opT (tks t n J) + X), (0, 0, 0), none), u.2)) (eR σ τ) (stP t n σ τ)) := fun gg => by
      obtain ⟨C, hC⟩ : ∃ C, C = opT (tks t n J) := ⟨_, rfl⟩
      have s95 : RR (lkB tb384) (B384_69, [some (mR (some 80)), some (mI x1), some (mI x2), some (mI x3), none], [], ρ) = RR (lkB tb384) (B384_95, [some (mR (some 80)), some (mI x1), some (mI x2), some (mI x3), none], [mI C], ρ) := by
        rw [e384_69, T358g gρ.2.2]
        simp only [Option.bind_some, Option.toList_some, Option.toList_none, List.cons_append, List.nil_append]
        rw [e384_73, if_neg n10, RG_9 gρ]
        unfold opT at hC
        by_cases c4 : tK (tks t n J) = 4
        · rw [if_pos c4] at hC
          rw [if_neg (show ¬ ¬ tK (tks t n J) = 4 from fun z => z c4), RG_11 gρ c4, T378]
          simp only [Option.bind_some, Option.toList_some, Option.toList_none, List.cons_append, List.nil_append]
          rw [e384_91, hC]
        · rw [if_neg c4] at hC
          rw [if_pos c4, e384_94, hC]
      have well : (C = 0 ∨ C = 64 ∨ C = 80 ∨ C = 160) → okc (RR (lkB tb384) (B384_139, [some (mR (some 80)), some (mI x1), some (mI x2), some (mI x3), some (mI C)], [], ρ)) none (fun τ => oR (bS (pRgt t (tks t n) 0 (J + 1)) fun u => .inr (((iOr 195 (iAnd Z 24), R, u.1, lI V, C + X), (0, 0, 0), none), u.2)) (eR σ τ) (stP t n σ τ)) := fun cc => by
        have k4 : tK (tks t n J) = 4 := opT_4 (by rw [← hC]; omega)
        have hX := hx gg
        have s151 : ∀ y : Int, y = X → okc (RR (lkB tb384) (B384_151, [some (mR (some 80)), some (mI x1), some (mI x2), some (mI x3), some (mI C)], [mI y, mI C, mR (some 80)], ρ)) none (fun τ => oR (bS (pRgt t (tks t n) 0 (J + 1)) fun u => .inr (((iOr 195 (iAnd Z 24), R, u.1, lI V, C + X), (0, 0, 0), none), u.2)) (eR σ τ) (stP t n σ τ)) := fun y hy => by
          have yb : 0 ≤ y ∧ y ≤ 1 := by
            rw [hy, hX]
            split <;> omega
          rw [e384_151, w32_i (by omega) (by omega), hy]
          refine okc_b (T373g (RG_I gρ (by omega)) (by rw [k4]; decide)) fun τ3 p3 => ?_
          show okc (RR (lkB tb384) (B384_159, [some (mR (some 80)), some (mI x1), some (mI x2), some (mI x3), some (mI C)], [], τ3)) none _
          rw [e384_159]
          refine okc_q (by repeat (first | exact lq_nil | refine lq_cons (Or.inr rfl) ?_ | refine lq_cons (Or.inl rfl) ?_)) (s179 (J + 1) (C + X) τ3 p3.2 (rfn_t (rfn_W p3.1) (rfn_I ⟨by omega, by omega⟩)) ?_ ?_ ?_ ?_ ?_ ?_)
          · rw [p3.1.1 _ _ (by omega), fO_ (by decide)]; exact v26
          · rw [p3.1.1 _ _ (by omega), fO_ (by decide)]; exact v27
          · rw [p3.1.1 _ _ (by omega), fO_ (by decide)]; exact v29
          · rw [p3.1.1 _ _ (by omega), fS_]
          · rw [p3.1.1 _ _ (by omega), fO_ (by decide)]; exact v31
          · rw [p3.1.1 _ _ (by omega), fO_ (by decide)]; exact v33
        rw [e384_139]
        by_cases c2 : x2 = 0
        · rw [if_pos c2] at hX
          rw [if_pos c2]
          exact s151 0 hX.symm
        · rw [if_neg c2] at hX
          rw [if_neg c2]
          exact s151 1 hX.symm
      rw [s95, ← hC, e384_95, T358g gρ.2.2]
      simp only [Option.bind_some, Option.toList_some, Option.toList_none, List.cons_append, List.nil_append]
      rw [e384_101, if_neg n10]
      by_cases c1 : C = 0
      · rw [if_pos c1, if_neg (show ¬ ¬ (C = 0 ∨ C = 64 ∨ C = 80 ∨ C = 160) by omega)]
        exact well (by omega)
      · rw [if_neg c1]
        by_cases c2 : C = 64
        · rw [if_pos c2, if_neg (show ¬ ¬ (C = 0 ∨ C = 64 ∨ C = 80 ∨ C = 160) by omega)]
          exact well (by omega)
        · rw [if_neg c2]
          by_cases c3 : C = 80
          · rw [if_pos c3, if_neg (show ¬ ¬ (C = 0 ∨ C = 64 ∨ C = 80 ∨ C = 160) by omega)]
            exact well (by omega)
          · rw [if_neg c3]
            by_cases c4 : C = 160
            · rw [if_pos c4, if_neg (show ¬ ¬ (C = 0 ∨ C = 64 ∨ C = 80 ∨ C = 160) by omega)]
              exact well (by omega)
            · rw [if_neg c4, if_pos (show ¬ (C = 0 ∨ C = 64 ∨ C = 80 ∨ C = 160) by omega), T359g gρ.2.2, RG_10 gρ]
              simp only [Option.bind_some, Option.toList_some, Option.toList_none, List.cons_append, List.nil_append]
              exact wr_e (rfr_t rfr_14 (rfr_n fρ)) (mis gρ).2 (by omega) (A139b (rqE_0 (mis gρ)))
    have s176 : ∀ y : Int, y = X → okc (RR (lkB tb384) (B384_176, [some (mR (some 80)), some (mI x1), some (mI x2), some (mI x3), none], [mI y, mR (some 80)], ρ)) none (fun τ => oR (bS (pRgt t (tks t n) 0 J) fun u => .inr (((iOr 195 (iAnd Z 24), R, u.1, lI V, X), (0, 0, 0), none), u.2)) (eR σ τ) (stP t n σ τ)) := fun y hy => by
      rw [e384_176, hy]
      refine s179 J X _ (RG_I gρ (by omega)) (rfn_I ⟨by omega, by omega⟩) ?_ ?_ ?_ ?_ ?_ ?_
      · rw [fO_ (by decide)]; exact v26
      · rw [fO_ (by decide)]; exact v27
      · rw [fO_ (by decide)]; exact v29
      · rw [fS_]
      · rw [fO_ (by decide)]; exact v31
      · rw [fO_ (by decide)]; exact v33
    rw [e384_61]
    by_cases c1 : x1 = 0
    · rw [if_neg (fun z => z c1)]
      by_cases c2 : x2 = 0
      · have ng : ¬ g := fun z => (hg.mp z).elim (fun a => a c1) (fun a => a c2)
        have hX := hx' ng
        rw [if_pos c2, if_neg ng]
        by_cases c3 : x3 = 0
        · rw [if_pos c3] at hX
          rw [if_pos c3]
          exact s176 _ hX.symm
        · rw [if_neg c3] at hX
          rw [if_neg c3]
          exact s176 _ hX.symm
      · have gg : g := hg.mpr (Or.inr c2)
        rw [if_neg c2, if_pos gg]
        exact s69 gg
    · have gg : g := hg.mpr (Or.inl c1)
      rw [if_pos c1, if_pos gg]
      exact s69 gg
end RSU
