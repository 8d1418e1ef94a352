/-! ===== the class's reader: places, exchanges ===== -/
section CAM
variable {t : Nat → Int} {n i j k m l : Nat} {σ τ ρ υ : MS} {c d e o s w x y z a r op f im M C O R : Int} {v W Y V : B64} {T : TK}
theorem rgc (rg : rgR t (tks t n j) = -1) (k2 : tK (tks t n j) = 2) : pRgt t (tks t n) w j = .inl (tB (tks t n j) : Int) ∧ pCst (tks t n) j = .inl (tB (tks t n j) : Int) := by
  unfold pRgt pCst pNum
  have ns : ¬ sgn (tks t n) 45 j := fun z => by
    have := z.1
    rw [k2] at this
    cases this
  rw [if_pos (show rgR t (tks t n j) < 0 ∨ ¬ (if rgR t (tks t n j) < 16 then (0 : Int) else 1) = w from Or.inl (by omega)), (mn_0 ns).1, (mn_0 ns).2]
  rw [if_neg (show ¬ (tK (tks t n j) = 3 ∧ tkS (tks t n j) = 0 ∧ ¬ (if (0 : Int) = 0 then iL 4294967295 else iL 2147483648) < tV (tks t n j)) from fun z => by
    have := z.1
    rw [k2] at this
    cases this)]
  exact ⟨rfl, rfl⟩
theorem szB_4 (h : szB 0 z) : z ∈ [(112 : Int), 104, 96, 120] := by
  rcases h with h | h | h | h | h
  · rw [h]; decide
  · rw [h]; decide
  · rw [h]; decide
  · rw [h]; decide
  · exact absurd rfl h.1
theorem st_o : ∀ z ∈ [(112 : Int), 104, 96, 120], iOr z 3 = iOr 99 (iAnd z 24) ∧ iOr z 2 = iOr 98 (iAnd z 24) := by decide
theorem wd_p : (0#64 ||| iL z ||| iL (iShl R 8)) ||| lShl (V &&& iL 65535) 16 = wdR z R 0 (lI V) 0 := by
  rw [BitVec.zero_or, wd_0 (b := z), wd_d, wd_f]
/-- PTR = REG or CONST -/
theorem T175 (h : cG σ t n m k) (z : cZ0 σ) (hw : gL σ 18 14 = 0#64) : okc (MM 175 [mR (some 18)] σ) (some (mI (rVc (pMem t (tks t n) k)))) (fun τ => oR (pMem t (tks t n) k) (cE σ τ) (cST m σ τ)) := by
  obtain ⟨τ1, e, p⟩ := T173 (a := 8) (x := 0) h hw
  rw [M175, e175_0, e]
  simp only [Option.bind_some, Option.toList_some, Option.toList_none, List.cons_append, List.nil_append]
  rw [e175_7]
  unfold pMem
  cases hp : pPtr t (tks t n) 0 k with
  | inl e =>
    rw [hp] at p
    show okc (if ¬ (0 : Int) = 0 then _ else _) (some (mI 0)) _
    rw [if_neg (fun z => z y00)]
    exact okc_s p
  | inr q =>
    rw [hp] at p
    obtain ⟨p1, p2, p3, p4, p5, p6⟩ := p
    have g1 : cG τ1 t n m q.2 := cG_A h p1 p2 p3
    have w1 : gL τ1 18 14 = wdR q.1.1 q.1.2.1 0 (lI q.1.2.2) 0 := by rw [p4, wd_p]
    show okc (if ¬ (1 : Int) = 0 then _ else _) _ _
    rw [if_pos n10, bS_r, T148 (s := 61) g1 (by decide) (by decide)]
    simp only [Option.bind_some, Option.toList_some, Option.toList_none, List.cons_append, List.nil_append]
    rw [e175_18]
    by_cases ce : sgn (tks t n) 61 q.2
    · have l2 := cG_lt g1 (by rw [ce.1]; decide)
      have h2 : cG (sI τ1 18 8 ((q.2 + 1 : Nat) : Int)) t n m (q.2 + 1) := cG_8 g1 l2
      have f2 : cqA (sI τ1 18 8 ((q.2 + 1 : Nat) : Int)) σ := cqA_t cqA_8 p1
      have w2 : gL (sI τ1 18 8 ((q.2 + 1 : Nat) : Int)) 18 14 = wdR q.1.1 q.1.2.1 0 (lI q.1.2.2) 0 := w1
      rw [b2_yes ce, if_pos n10, if_pos ce, if_neg (show ¬ ¬ sgn (tks t n) 61 q.2 from fun z => z ce)]
      generalize sI τ1 18 8 ((q.2 + 1 : Nat) : Int) = ρ2 at *
      rw [T149 h2]
      simp only [Option.bind_some, Option.toList_some, Option.toList_none, List.cons_append, List.nil_append]
      rw [e175_27]
      by_cases rg : rgR t (tks t n (q.2 + 1)) = -1
      · have es : (if tK (tks t n (q.2 + 1)) = 2 then (bS (pRgt t (tks t n) 0 (q.2 + 1)) fun u => .inr ((((iOr 99 (iAnd q.1.1 24), q.1.2.1, u.1, lI q.1.2.2, 0), (0, 0, 0), none), u.2) : SR × Nat)) else (bS (pCst (tks t n) (q.2 + 1)) fun u => .inr ((((iOr 98 (iAnd q.1.1 24), q.1.2.1, 0, lI q.1.2.2, lI u.1), (0, 0, 0), none), u.2) : SR × Nat))) = bS (pCst (tks t n) (q.2 + 1)) fun u => .inr ((((iOr 98 (iAnd q.1.1 24), q.1.2.1, 0, lI q.1.2.2, lI u.1), (0, 0, 0), none), u.2) : SR × Nat) := by
          by_cases k2 : tK (tks t n (q.2 + 1)) = 2
          · rw [if_pos k2, (rgc (w := 0) rg k2).1, (rgc (w := 0) rg k2).2]
            rfl
          · rw [if_neg k2]
        rw [es, if_neg (fun z => z rg), w2, wd_o (szB_i p5) (by omega)]
        obtain ⟨τ, e, p⟩ := T160 (k := q.2 + 1) (cG_L h2) (h14 (σ := ρ2) (v := wdR (iOr q.1.1 2) q.1.2.1 0 (lI q.1.2.2) 0))
        rw [e]
        simp only [Option.bind_some, Option.toList_some, Option.toList_none, List.cons_append, List.nil_append]
        rw [e175_49, if_pos rVc_b]
        cases hp : pCst (tks t n) (q.2 + 1) with
        | inl e =>
          rw [hp] at p
          exact okc_s (cE_c (ccq_t (ccq_L (by omega)) (ccq_A f2)) p)
        | inr u =>
          rw [hp] at p
          obtain ⟨u1, u2, u3, u4⟩ := p
          exact okc_s (cST_A (cqA_t u1 (cqA_t cqA_L f2)) z h.2.2.2 u2 u3 (by rw [u4, (st_o _ (szB_4 p5)).2]) rfl)
      · have k2 := rgR_n rg
        rw [if_pos k2, if_pos rg, w2, wd_o (szB_i p5) (by omega)]
        obtain ⟨τ, e, p⟩ := T176 (k := q.2 + 1) (cG_L h2) (h14 (σ := ρ2) (v := wdR (iOr q.1.1 3) q.1.2.1 0 (lI q.1.2.2) 0))
        rw [e]
        simp only [Option.bind_some, Option.toList_some, Option.toList_none, List.cons_append, List.nil_append]
        rw [e175_67, if_pos rVc_b]
        cases hp : pRgt t (tks t n) 0 (q.2 + 1) with
        | inl e =>
          rw [hp] at p
          exact okc_s (cE_c (ccq_t (ccq_L (by omega)) (ccq_A f2)) p)
        | inr u =>
          rw [hp] at p
          obtain ⟨u1, u2, u3, u4⟩ := p
          exact okc_s (cST_A (cqA_t u1 (cqA_t cqA_L f2)) z h.2.2.2 u2 u3 (by rw [u4, wd_s, (st_o _ (szB_4 p5)).1]) rfl)
    · rw [b2_no ce, if_neg (fun z => z y00), if_neg ce, if_pos (show ¬ sgn (tks t n) 61 q.2 from ce)]
      exact okc_s (cE_m g1 (ccq_A p1))
theorem m_16 : lShl v 16 &&& iL (-97) = lShl v 16 := by
  show (v <<< 16) &&& iL (-97) = v <<< 16
  refine BitVec.eq_of_getLsbD_eq fun i hi => ?_
  rw [BitVec.getLsbD_and, BitVec.getLsbD_shiftLeft]
  have mk : ∀ i : Fin 64, 16 ≤ (i : Nat) → (iL (-97)).getLsbD (i : Nat) = true := by decide
  by_cases c : i < 16
  · rw [decide_eq_true c, Bool.not_true, Bool.and_false, Bool.false_and, Bool.false_and]
  · rw [show (iL (-97)).getLsbD i = true from mk ⟨i, hi⟩ (show 16 ≤ i by omega), Bool.and_true]
theorem m_R : ∀ R : Fin 11, iL (iShl ((R : Nat) : Int) 8) &&& iL (-97) = iL (iShl ((R : Nat) : Int) 8) := by decide
theorem m_R' (h : 0 ≤ R ∧ R ≤ 10) : iL (iShl R 8) &&& iL (-97) = iL (iShl R 8) := by
  have := m_R ⟨R.toNat, by omega⟩
  simp only at this
  rwa [show ((R.toNat : Nat) : Int) = R by omega] at this
theorem m_z : ∀ z ∈ [(112 : Int), 104, 96, 120], iL z &&& iL (-97) = iL (iAnd z 24) ∧ -2147483648 ≤ iAnd z 24 ∧ iAnd z 24 < 2147483648 := by decide
theorem m_0 : lShl (iL 0) 32 &&& iL (-97) = lShl (iL 0) 32 := by decide
theorem m_s : iL (iShl 0 12) &&& iL (-97) = iL (iShl 0 12) := by decide
/-- the mode goes, the exchange's comes -/
theorem wd_x (hz : z ∈ [(112 : Int), 104, 96, 120]) (hR : 0 ≤ R ∧ R ≤ 10) : (wdR z R 0 f 0 &&& iL (-97)) ||| iL 195 = wdR (iOr 195 (iAnd z 24)) R 0 f 0 := by
  have e : wdR z R 0 f 0 &&& iL (-97) = wdR (iAnd z 24) R 0 f 0 := by
    unfold wdR
    rw [BitVec.and_comm, BitVec.and_or_distrib_left, BitVec.and_or_distrib_left, BitVec.and_or_distrib_left, BitVec.and_or_distrib_left, BitVec.and_comm _ (lShl (iL 0) 32), m_0, BitVec.and_comm _ (lShl (iL f &&& iL 65535) 16), m_16, BitVec.and_comm _ (iL (iShl 0 12)), m_s, BitVec.and_comm _ (iL (iShl R 8)), m_R' hR, BitVec.and_comm _ (iL z), (m_z z hz).1]
  rw [e, wd_o (m_z z hz).2 (by omega), iOr_c]
theorem xs_m : xsC C = -1 ∧ ¬ (C = 0 ∨ C = 64 ∨ C = 80 ∨ C = 160) ∨ xsC C = C ∧ (C = 0 ∨ C = 64 ∨ C = 80 ∨ C = 160) := by
  unfold xsC
  split
  · rename_i h
    exact Or.inr ⟨rfl, h⟩
  · rename_i h
    exact Or.inl ⟨rfl, h⟩
theorem ad_x : ∀ C ∈ [(0 : Int), 64, 80, 160], ∀ x ∈ [(0 : Int), 1], lI (iL (iOr x C)) = C + x := by decide
theorem ad_y : ∀ x ∈ [(225 : Int), 241], lI (iL (iOr x 0)) = x := by decide
/-- behind the place -/
theorem A48 {q : (Int × Int × B64) × Nat} (g1 : cG τ t n m j) (z : cZ0 σ) (h9 : gI σ 18 9 = -1) (f1 : cqA τ σ) (w1 : gL τ 18 14 = wdR q.1.1 q.1.2.1 0 (lI q.1.2.2) 0) (p5 : szB 0 q.1.1) (p6 : 0 ≤ q.1.2.1 ∧ q.1.2.1 ≤ 10) (hy : w32 ((j : Int) + y) = (i : Int)) (hi : i ≤ m) (hI : lI (iL (iOr x C)) = im) : okc (RR (lkB tb177) (B177_48, [some (mR (some 18)), some (mI x), some (mI o), some (mI C)], [mI y, mI (j : Int), mR (some 18)], τ)) (some (mI (rVc (bS (pRgt t (tks t n) 0 i) fun u => .inr ((((iOr 195 (iAnd q.1.1 24), q.1.2.1, u.1, lI q.1.2.2, im), (0, 0, 0), none), u.2) : SR × Nat))))) (fun υ => oR (bS (pRgt t (tks t n) 0 i) fun u => .inr ((((iOr 195 (iAnd q.1.1 24), q.1.2.1, u.1, lI q.1.2.2, im), (0, 0, 0), none), u.2) : SR × Nat)) (cE σ υ) (cST m σ υ)) := by
  rw [e177_48, hy, gL_sI, w1, wd_x (szB_4 p5) p6, wd_i, hI]
  have h2 : cG (sL (sI τ 18 8 (i : Int)) 18 14 (wdR (iOr 195 (iAnd q.1.1 24)) q.1.2.1 0 (lI q.1.2.2) im)) t n m i := cG_L (cG_8 g1 hi)
  have f2 : cqA (sL (sI τ 18 8 (i : Int)) 18 14 (wdR (iOr 195 (iAnd q.1.1 24)) q.1.2.1 0 (lI q.1.2.2) im)) σ := cqA_t cqA_L (cqA_t cqA_8 f1)
  have w2 : gL (sL (sI τ 18 8 (i : Int)) 18 14 (wdR (iOr 195 (iAnd q.1.1 24)) q.1.2.1 0 (lI q.1.2.2) im)) 18 14 = wdR (iOr 195 (iAnd q.1.1 24)) q.1.2.1 0 (lI q.1.2.2) im := h14
  generalize sL (sI τ 18 8 (i : Int)) 18 14 (wdR (iOr 195 (iAnd q.1.1 24)) q.1.2.1 0 (lI q.1.2.2) im) = ρ2 at *
  rw [T149 h2]
  simp only [Option.bind_some, Option.toList_some, Option.toList_none, List.cons_append, List.nil_append]
  obtain ⟨υ, e, p⟩ := T176 h2 w2
  rw [e177_81, e]
  simp only [Option.bind_some, Option.toList_some, Option.toList_none, List.cons_append, List.nil_append]
  rw [e177_84, if_pos rVc_b]
  cases hp : pRgt t (tks t n) 0 i with
  | inl e =>
    rw [hp] at p
    exact okc_s (cE_c (ccq_A f2) p)
  | inr u =>
    rw [hp] at p
    obtain ⟨u1, u2, u3, u4⟩ := p
    exact okc_s (cST_A (cqA_t u1 f2) z h9 u2 u3 (by rw [u4, wd_s]) rfl)
/-- lock, fetch -/
theorem T177g {dT : Decidable True} (h : cG σ t n m (k + 1)) (z : cZ0 σ) (hw : gL σ 18 14 = 0#64) (hx : x ∈ [(0 : Int), 1]) : okc (MM 177 [mR (some 18), mI x, mI 1] σ) (some (mI (rVc (pAtm t (tks t n) True dT x k)))) (fun τ => oR (pAtm t (tks t n) True dT x k) (cE σ τ) (cST m σ τ)) := by
  obtain ⟨τ1, e, p⟩ := T173 (a := 8) (x := 0) h hw
  rw [M177, e177_0, e]
  simp only [Option.bind_some, Option.toList_some, Option.toList_none, List.cons_append, List.nil_append]
  rw [e177_7]
  unfold pAtm
  cases hp : pPtr t (tks t n) 0 (k + 1) with
  | inl e =>
    rw [hp] at p
    show okc (if ¬ (0 : Int) = 0 then _ else _) (some (mI 0)) _
    rw [if_neg (fun z => z y00)]
    exact okc_s p
  | inr q =>
    rw [hp] at p
    obtain ⟨p1, p2, p3, p4, p5, p6⟩ := p
    have g1 : cG τ1 t n m q.2 := cG_A h p1 p2 p3
    have km := cG_m g1
    have w1 : gL τ1 18 14 = wdR q.1.1 q.1.2.1 0 (lI q.1.2.2) 0 := by rw [p4, wd_p]
    show okc (if ¬ (1 : Int) = 0 then _ else _) _ _
    rw [if_pos n10, if_neg n10, bS_r, if_pos trivial, T178 g1]
    simp only [Option.bind_some, Option.toList_some, Option.toList_none, List.cons_append, List.nil_append]
    rw [e177_20, e177_24]
    rcases xs_m (C := opT (tks t n q.2)) with ⟨x1, x2⟩ | ⟨x1, x2⟩
    · rw [x1, if_neg (show ¬ (0 : Int) ≤ -1 by decide), if_pos (show ¬ (opT (tks t n q.2) = 0 ∨ opT (tks t n q.2) = 64 ∨ opT (tks t n q.2) = 80 ∨ opT (tks t n q.2) = 160) from x2), T144 g1]
      simp only [Option.bind_some, Option.toList_some, Option.toList_none, List.cons_append, List.nil_append]
      rw [e177_33, if_pos bl0]
      exact okc_s (cE_m g1 (ccq_A p1))
    · have k4 := (opT_b (T := tks t n q.2)).2.2 (by omega)
      have l2 := cG_lt g1 (by rw [k4]; decide)
      rw [x1, if_pos (show 0 ≤ opT (tks t n q.2) by omega), if_neg (show ¬ ¬ (opT (tks t n q.2) = 0 ∨ opT (tks t n q.2) = 64 ∨ opT (tks t n q.2) = 80 ∨ opT (tks t n q.2) = 160) from fun z => z x2), if_neg n10, g1.2.1]
      refine A48 g1 z h.2.2.2 p1 w1 p5 p6 (w32_s1 (show q.2 < 100000 by omega)) l2 (ad_x _ ?_ _ hx)
      rcases x2 with y | y | y | y <;> rw [y] <;> decide
/-- xchg, cmpxchg -/
theorem T177n {dF : Decidable False} (h : cG σ t n m (k + 1)) (z : cZ0 σ) (hw : gL σ 18 14 = 0#64) (hx : x ∈ [(225 : Int), 241]) : okc (MM 177 [mR (some 18), mI x, mI 0] σ) (some (mI (rVc (pAtm t (tks t n) False dF x k)))) (fun τ => oR (pAtm t (tks t n) False dF x k) (cE σ τ) (cST m σ τ)) := by
  obtain ⟨τ1, e, p⟩ := T173 (a := 8) (x := 0) h hw
  rw [M177, e177_0, e]
  simp only [Option.bind_some, Option.toList_some, Option.toList_none, List.cons_append, List.nil_append]
  rw [e177_7]
  unfold pAtm
  cases hp : pPtr t (tks t n) 0 (k + 1) with
  | inl e =>
    rw [hp] at p
    show okc (if ¬ (0 : Int) = 0 then _ else _) (some (mI 0)) _
    rw [if_neg (fun z => z y00)]
    exact okc_s p
  | inr q =>
    rw [hp] at p
    obtain ⟨p1, p2, p3, p4, p5, p6⟩ := p
    have g1 : cG τ1 t n m q.2 := cG_A h p1 p2 p3
    have km := cG_m g1
    have w1 : gL τ1 18 14 = wdR q.1.1 q.1.2.1 0 (lI q.1.2.2) 0 := by rw [p4, wd_p]
    show okc (if ¬ (1 : Int) = 0 then _ else _) _ _
    rw [if_pos n10, if_pos y00, bS_r, if_neg (fun z => z), e177_24, if_pos (show (0 : Int) ≤ 0 by decide), if_pos y00, g1.2.1]
    exact A48 g1 z h.2.2.2 p1 w1 p5 p6 (w32_a (a := q.2) (b := 0) (show q.2 + 0 < 100001 by omega)) p3 (ad_y _ hx)
end CAM
