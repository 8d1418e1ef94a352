/-! ===== the class's reader: what begins with a register, places, exchanges ===== -/
section CTO
variable {t : Nat → Int} {n i j k m l : Nat} {σ τ ρ υ : MS} {c d e o s w x y z a r op f im M C O R : Int} {v W Y V : B64} {T : TK}
theorem iOr_0 (ho : -2147483648 ≤ op ∧ op < 2147483648) : iOr op 0 = op := by
  show (b32 op ||| b32 0).toInt = op
  rw [show b32 0 = 0#32 from rfl, BitVec.or_zero, b32_i ho]
/-- the right side -/
theorem cSid (h : cG σ t n m j) (hw : gL σ 18 14 = wdR op d 0 f 0) (ho : -2147483648 ≤ op ∧ op < 2147483648) (hr : isR r) : ∃ τ, (if ¬ rgR t (tks t n j) = -1 then MM 161 [mR (some 18), mI r] σ else MM 160 [mR (some 18)] σ) = some (some (mI (rVc (pSid t (tks t n) (wOf r) j))), τ) ∧ oR (pSid t (tks t n) (wOf r) j) (cE σ τ) (fun q => cqA τ σ ∧ gI τ 18 8 = (q.2 : Int) ∧ q.2 ≤ m ∧ gL τ 18 14 = wdR (iOr op q.1.1) d q.1.2.1 f (lI q.1.2.2)) := by
  by_cases rg : rgR t (tks t n j) = -1
  · rw [if_neg (fun z => z rg)]
    obtain ⟨τ, e, p⟩ := T160 h hw
    have es : pSid t (tks t n) (wOf r) j = bS (pCst (tks t n) j) fun q => .inr ((0, 0, q.1), q.2) := by
      unfold pSid
      by_cases k2 : tK (tks t n j) = 2
      · rw [if_pos k2]
        unfold pRgt pCst pNum
        have ns : ¬ sgn (tks t n) 45 j := fun z => by
          have := z.1
          rw [k2] at this
          cases this
        rw [if_pos (show rgR t (tks t n j) < 0 ∨ ¬ (if rgR t (tks t n j) < 16 then (0 : Int) else 1) = wOf r from Or.inl (by omega)), (mn_0 ns).1, (mn_0 ns).2]
        rw [if_neg (show ¬ (tK (tks t n j) = 3 ∧ tkS (tks t n j) = 0 ∧ ¬ (if (0 : Int) = 0 then iL 4294967295 else iL 2147483648) < tV (tks t n j)) from fun z => by
          have := z.1
          rw [k2] at this
          cases this)]
        rfl
      · rw [if_neg k2]
    refine ⟨τ, ?_, ?_⟩
    · rw [e, es]
      cases pCst (tks t n) j <;> rfl
    · rw [es]
      cases hp : pCst (tks t n) j with
      | inl e =>
        rw [hp] at p
        exact p
      | inr q =>
        rw [hp] at p
        obtain ⟨p1, p2, p3, p4⟩ := p
        exact ⟨p1, p2, p3, by rw [p4, iOr_0 ho]⟩
  · rw [if_pos rg]
    obtain ⟨τ, e, p⟩ := T161 h (show 0 ≤ r ∧ r ≤ 26 by omega) hw ho
    have k2 := rgR_n rg
    have es : pSid t (tks t n) (wOf r) j = bS (pRgt t (tks t n) (wOf r) j) fun q => .inr ((8, q.1, 0), q.2) := by
      unfold pSid
      rw [if_pos k2]
    refine ⟨τ, ?_, ?_⟩
    · rw [e, es]
      cases pRgt t (tks t n) (wOf r) j <;> rfl
    · rw [es]
      cases hp : pRgt t (tks t n) (wOf r) j with
      | inl e =>
        rw [hp] at p
        exact p
      | inr q =>
        rw [hp] at p
        obtain ⟨p1, p2, p3, p4⟩ := p
        have l0 : lI (0 : B64) = 0 := by decide
        refine ⟨p1, p2, p3, ?_⟩
        show gL τ 18 14 = wdR (iOr op 8) d q.1 f (lI (0 : B64))
        rw [p4, l0]
theorem tosC (hC : C = if M = 0 then O else osC O) : C < 0 ↔ (O < 0 ∨ (¬ M = 0 ∧ ¬ (O = 48 ∨ O = 144 ∨ O = 112))) := by
  unfold osC at hC
  by_cases cm : M = 0
  · rw [if_pos cm] at hC
    omega
  · rw [if_neg cm] at hC
    by_cases c1 : O = 48
    · rw [if_pos c1] at hC
      omega
    · rw [if_neg c1] at hC
      by_cases c2 : O = 144
      · rw [if_pos c2] at hC
        omega
      · rw [if_neg c2] at hC
        by_cases c3 : O = 112
        · rw [if_pos c3] at hC
          omega
        · rw [if_neg c3] at hC
          omega
theorem opT_b : -1 ≤ opT T ∧ opT T ≤ 160 ∧ (0 ≤ opT T → tK T = 4) := by
  unfold opT
  split
  · rename_i h
    unfold cdT
    refine ⟨?_, ?_, fun _ => h⟩
    · repeat (first | decide | split)
    · repeat (first | decide | split)
  · exact ⟨by decide, by decide, fun z => absurd z (by decide)⟩
theorem towC (hC : C = if M = 0 then O else osC O) (h1 : -1 ≤ O ∧ O ≤ 160) (hn : ¬ (O < 0 ∨ (¬ M = 0 ∧ ¬ (O = 48 ∨ O = 144 ∨ O = 112)))) (ho : -2147483648 ≤ op ∧ op < 2147483648) : wdR op d 0 0 0 ||| iL C = wdR (iOr op (if ¬ M = 0 ∧ O = 112 then 192 else O)) d 0 (if ¬ M = 0 ∧ ¬ O = 112 then 1 else 0) 0 := by
  unfold osC at hC
  by_cases cm : M = 0
  · rw [if_pos cm] at hC
    rw [if_neg (show ¬ (¬ M = 0 ∧ O = 112) from fun z => z.1 cm), if_neg (show ¬ (¬ M = 0 ∧ ¬ O = 112) from fun z => z.1 cm), hC, wd_o ho (by omega)]
  · rw [if_neg cm] at hC
    by_cases c1 : O = 48
    · rw [if_pos c1] at hC
      rw [if_neg (show ¬ (¬ M = 0 ∧ O = 112) by omega), if_pos (show ¬ M = 0 ∧ ¬ O = 112 by omega), hC, c1, wd_s48 ho]
    · rw [if_neg c1] at hC
      by_cases c2 : O = 144
      · rw [if_pos c2] at hC
        rw [if_neg (show ¬ (¬ M = 0 ∧ O = 112) by omega), if_pos (show ¬ M = 0 ∧ ¬ O = 112 by omega), hC, c2, wd_s144 ho]
      · rw [if_neg c2] at hC
        by_cases c3 : O = 112
        · rw [if_pos c3] at hC
          rw [if_pos (show ¬ M = 0 ∧ O = 112 from ⟨cm, c3⟩), if_neg (show ¬ (¬ M = 0 ∧ ¬ O = 112) from fun z => z.2 c3), hC, wd_o ho (by omega)]
        · omega
theorem sk_1 (h : nmP' t (tks t n k) 60) : sS t (tks t n) k = 1 ∧ skN t (tks t n) k = k + 1 := ⟨if_pos h, if_pos h⟩
theorem sk_0 (h : ¬ nmP' t (tks t n k) 60) : sS t (tks t n) k = 0 ∧ skN t (tks t n) k = k := ⟨if_neg h, if_neg h⟩
/-- what begins with a register -/
theorem T165 (h : cG σ t n m k) (z : cZ0 σ) (hr : r = rgR t (tks t n k)) (r0 : 0 ≤ r) : okc (MM 165 [mR (some 18), mI r] σ) (some (mI (rVc (pTo t (tks t n) k)))) (fun τ => oR (pTo t (tks t n) k) (cE σ τ) (cST m σ τ)) := by
  have km := cG_m h
  have rr := rgR_r (t := t) (X := tks t n k)
  have k2 := rgR_n (t := t) (X := tks t n k) (by omega)
  rw [← hr] at rr
  have ir : isR r := by omega
  have l1 := cG_lt h (by rw [k2]; decide)
  have s23 : MM 165 [mR (some 18), mI r] σ = RR (lkB tb165) (B165_23, [some (mR (some 18)), some (mI r), none, none], [mI (bOf r), mR (some 18)], sI σ 18 8 ((k + 1 : Nat) : Int)) := by
    rw [M165, e165_0, h.2.1, w32_s1 (show k < 100000 by omega)]
    unfold bOf
    by_cases r16 : 16 ≤ r
    · rw [if_pos r16, if_neg (show ¬ r < 16 by omega)]
    · rw [if_neg r16, if_pos (show r < 16 by omega)]
  rw [s23, e165_23, wd_1 bOf_i]
  clear s23
  have h1 : cG (sL (sI σ 18 8 ((k + 1 : Nat) : Int)) 18 14 (wdR (bOf r) (iAnd r 15) 0 0 0)) t n m (k + 1) := cG_L (cG_8 h l1)
  have f1 : cqA (sL (sI σ 18 8 ((k + 1 : Nat) : Int)) 18 14 (wdR (bOf r) (iAnd r 15) 0 0 0)) σ := cqA_t cqA_L cqA_8
  have w1 : gL (sL (sI σ 18 8 ((k + 1 : Nat) : Int)) 18 14 (wdR (bOf r) (iAnd r 15) 0 0 0)) 18 14 = wdR (bOf r) (iAnd r 15) 0 0 0 := h14
  generalize sL (sI σ 18 8 ((k + 1 : Nat) : Int)) 18 14 (wdR (bOf r) (iAnd r 15) 0 0 0) = ρ1 at *
  have km1 := cG_m h1
  rw [T147 (s := 61) h1 (by decide) (by decide)]
  simp only [Option.bind_some, Option.toList_some, Option.toList_none, List.cons_append, List.nil_append]
  rw [e165_41]
  by_cases ce : sgn (tks t n) 61 (k + 1)
  · have eP : pTo t (tks t n) k = pVal t (tks t n) r (k + 2) := by
      unfold pTo
      rw [if_pos ce, ← hr]
    have l2 := cG_lt h1 (by rw [ce.1]; decide)
    have h2 : cG (sI ρ1 18 8 ((k + 1 + 1 : Nat) : Int)) t n m (k + 2) := cG_8 h1 l2
    have f2 : cqA (sI ρ1 18 8 ((k + 1 + 1 : Nat) : Int)) σ := cqA_t cqA_8 f1
    have w2 : gL (sI ρ1 18 8 ((k + 1 + 1 : Nat) : Int)) 18 14 = wdR (bOf r) (iAnd r 15) 0 0 0 := w1
    rw [eP, b2_yes ce, if_neg n10, h1.2.1, w32_s1 (show k + 1 < 100000 by omega)]
    generalize sI ρ1 18 8 ((k + 1 + 1 : Nat) : Int) = ρ2 at *
    obtain ⟨τ, e, p⟩ := T168 h2 (cZ0_A z f2) ir w2
    rw [e]
    simp only [Option.bind_some, Option.toList_some, Option.toList_none, List.cons_append, List.nil_append]
    rw [e165_59, if_pos rVc_b]
    refine okc_s ?_
    cases hp : pVal t (tks t n) r (k + 2) with
    | inl e =>
      rw [hp] at p
      exact cE_c (ccq_A f2) p
    | inr q =>
      rw [hp] at p
      obtain ⟨p1, p2⟩ := p
      exact ⟨ccq_t p1 (ccq_A f2), p2⟩
  · have main : ∀ (M : Int) (J : Nat) (ρ : MS), M = sS t (tks t n) (k + 1) → J = skN t (tks t n) (k + 1) → cG ρ t n m J → cqA ρ σ → gL ρ 18 14 = wdR (bOf r) (iAnd r 15) 0 0 0 → okc (RR (lkB tb165) (B165_82, [some (mR (some 18)), some (mI r), some (mI M), none], [], ρ)) (some (mI (rVc (pTo t (tks t n) k)))) (fun τ => oR (pTo t (tks t n) k) (cE σ τ) (cST m σ τ)) := fun M J ρ hM hJ g fr w => by
      have eP : pTo t (tks t n) k = if opT (tks t n J) < 0 ∨ (¬ M = 0 ∧ ¬ (opT (tks t n J) = 48 ∨ opT (tks t n J) = 144 ∨ opT (tks t n J) = 112)) then .inl (tB (tks t n J) : Int) else bS (pSid t (tks t n) (wOf r) (J + 1)) fun q => .inr (((iOr (iOr (if ¬ M = 0 ∧ opT (tks t n J) = 112 then 192 else opT (tks t n J)) (bOf r)) q.1.1, iAnd r 15, q.1.2.1, (if ¬ M = 0 ∧ ¬ opT (tks t n J) = 112 then 1 else 0), lI q.1.2.2), (0, 0, 0), none), q.2) := by
        unfold pTo
        rw [if_neg ce, ← hr, ← hM, ← hJ]
      have gm := cG_m g
      have ob := opT_b (T := tks t n J)
      obtain ⟨C, hC⟩ : ∃ C, C = if M = 0 then opT (tks t n J) else osC (opT (tks t n J)) := ⟨_, rfl⟩
      have s97 : RR (lkB tb165) (B165_82, [some (mR (some 18)), some (mI r), some (mI M), none], [], ρ) = RR (lkB tb165) (B165_97, [some (mR (some 18)), some (mI r), some (mI M), none], [mI C], ρ) := by
        rw [e165_82, hC]
        by_cases cm : M = 0
        · rw [if_pos cm, if_pos cm, T167 g]
          rfl
        · rw [if_neg cm, if_neg cm, T166 g]
          simp only [Option.bind_some, Option.toList_some, Option.toList_none, List.cons_append, List.nil_append]
          rw [e165_90]
      rw [eP, s97, e165_97]
      by_cases cC : C < 0
      · rw [if_pos ((tosC hC).mp cC), if_neg (show ¬ 0 ≤ C by omega), T144 g]
        simp only [Option.bind_some, Option.toList_some, Option.toList_none, List.cons_append, List.nil_append]
        rw [e165_106, if_pos bl0]
        exact okc_s (cE_m g (ccq_A fr))
      · have nc := fun z => cC ((tosC hC).mpr z)
        have k4 := ob.2.2 (Int.not_lt.mp fun y => nc (Or.inl y))
        have lJ := cG_lt g (by rw [k4]; decide)
        rw [if_neg nc, if_pos (show 0 ≤ C by omega), g.2.1, w32_s1 (show J < 100000 by omega), gL_sI, w, towC hC ⟨ob.1, ob.2.1⟩ nc bOf_i]
        generalize (if ¬ M = 0 ∧ opT (tks t n J) = 112 then 192 else opT (tks t n J)) = OP
        generalize (if ¬ M = 0 ∧ ¬ opT (tks t n J) = 112 then (1 : Int) else 0) = OFF
        have h2 : cG (sL (sI ρ 18 8 ((J + 1 : Nat) : Int)) 18 14 (wdR (iOr (bOf r) OP) (iAnd r 15) 0 OFF 0)) t n m (J + 1) := cG_L (cG_8 g lJ)
        have f2 : cqA (sL (sI ρ 18 8 ((J + 1 : Nat) : Int)) 18 14 (wdR (iOr (bOf r) OP) (iAnd r 15) 0 OFF 0)) σ := cqA_t cqA_L (cqA_t cqA_8 fr)
        have w2 : gL (sL (sI ρ 18 8 ((J + 1 : Nat) : Int)) 18 14 (wdR (iOr (bOf r) OP) (iAnd r 15) 0 OFF 0)) 18 14 = wdR (iOr (bOf r) OP) (iAnd r 15) 0 OFF 0 := h14
        generalize sL (sI ρ 18 8 ((J + 1 : Nat) : Int)) 18 14 (wdR (iOr (bOf r) OP) (iAnd r 15) 0 OFF 0) = ρ2 at *
        rw [T149 h2]
        simp only [Option.bind_some, Option.toList_some, Option.toList_none, List.cons_append, List.nil_append]
        rw [e165_132]
        obtain ⟨τ, e, p⟩ := cSid h2 w2 iOr_in ir
        have fin : okc (some (some (mI (rVc (pSid t (tks t n) (wOf r) (J + 1)))), τ)) (some (mI (rVc (bS (pSid t (tks t n) (wOf r) (J + 1)) fun q => .inr ((((iOr (iOr OP (bOf r)) q.1.1, iAnd r 15, q.1.2.1, OFF, lI q.1.2.2), (0, 0, 0), none), q.2) : SR × Nat))))) (fun τ => oR (bS (pSid t (tks t n) (wOf r) (J + 1)) fun q => .inr ((((iOr (iOr OP (bOf r)) q.1.1, iAnd r 15, q.1.2.1, OFF, lI q.1.2.2), (0, 0, 0), none), q.2) : SR × Nat)) (cE σ τ) (cST m σ τ)) := by
          cases hp : pSid t (tks t n) (wOf r) (J + 1) with
          | inl e =>
            rw [hp] at p
            exact okc_s (cE_c (ccq_A f2) p)
          | inr q =>
            rw [hp] at p
            obtain ⟨p1, p2, p3, p4⟩ := p
            exact okc_s (cST_A (cqA_t p1 f2) z h.2.2.2 p2 p3 (by rw [p4, iOr_c (a := bOf r)]) rfl)
        by_cases rg : rgR t (tks t n (J + 1)) = -1
        · rw [if_neg (fun z => z rg)] at e ⊢
          rw [e]
          simp only [Option.bind_some, Option.toList_some, Option.toList_none, List.cons_append, List.nil_append]
          rw [e165_140, e165_148, if_pos rVc_b]
          exact fin
        · rw [if_pos rg] at e ⊢
          rw [e]
          simp only [Option.bind_some, Option.toList_some, Option.toList_none, List.cons_append, List.nil_append]
          rw [e165_148, if_pos rVc_b]
          exact fin
    rw [b2_no ce, if_pos y00, T145 (j := 60) h1 (by decide)]
    simp only [Option.bind_some, Option.toList_some, Option.toList_none, List.cons_append, List.nil_append]
    rw [e165_67]
    by_cases cs : nmP' t (tks t n (k + 1)) 60
    · have l2 := cG_lt h1 (by rw [nm_k cs]; decide)
      rw [b2_yes cs, if_neg n10, h1.2.1, w32_s1 (show k + 1 < 100000 by omega)]
      exact main 1 (k + 2) _ (sk_1 cs).1.symm (sk_1 cs).2.symm (cG_8 h1 l2) (cqA_t cqA_8 f1) w1
    · rw [b2_no cs, if_pos y00]
      exact main 0 (k + 1) ρ1 (sk_0 cs).1.symm (sk_0 cs).2.symm h1 f1 w1
end CTO
