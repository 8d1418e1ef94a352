/-! ===== the class's reader: numbers, casts ===== -/
section CNM
variable {t : Nat → Int} {n i j k m l : Nat} {σ τ ρ υ : MS} {c d e o s w x y z a r op f im : Int} {v W Y : B64} {T : TK}
theorem bOf_i : -2147483648 ≤ bOf r ∧ bOf r < 2147483648 := by
  have := bOf_b (r := r)
  omega
theorem hi32w : lShl (lUsh v 32) 32 = v &&& iL (-4294967296) := by
  show (v >>> 32) <<< 32 = v &&& iL (-4294967296)
  refine BitVec.eq_of_getLsbD_eq fun i hi => ?_
  rw [BitVec.getLsbD_shiftLeft, BitVec.getLsbD_ushiftRight, BitVec.getLsbD_and]
  have mk : ∀ i : Fin 64, (iL (-4294967296)).getLsbD (i : Nat) = decide (32 ≤ (i : Nat)) := by decide
  rw [show (iL (-4294967296)).getLsbD i = decide (32 ≤ i) from mk ⟨i, hi⟩, decide_eq_true hi, Bool.true_and]
  by_cases c : i < 32
  · rw [decide_eq_true c, decide_eq_false (show ¬ 32 ≤ i by omega), Bool.and_false]
    rfl
  · rw [decide_eq_false c, decide_eq_true (show 32 ≤ i by omega), Bool.and_true, show 32 + (i - 32) = i by omega]
    rfl
theorem lt_m1 : ¬ iL (-1) < v := fun z => by
  have h := v.isLt
  have z := BitVec.lt_def.mp z
  have e : (iL (-1)).toNat = 18446744073709551615 := by decide
  omega
/-- a word's statement is left -/
theorem cST_s {q : SR × Nat} (f : ccq τ σ) (z : cZ0 σ) (e8 : gI τ 18 8 = (q.2 : Int)) (lm : q.2 ≤ m) (e9 : gI τ 18 9 = -1) (w : gL τ 18 14 = wdR q.1.1.1 q.1.1.2.1 q.1.1.2.2.1 q.1.1.2.2.2.1 q.1.1.2.2.2.2) (an : q.1.2.1.1 = 0) (e17 : gI τ 18 17 = gI σ 18 17) (pr : q.1.2.1.2.2 = gI τ 18 16) (sd : ¬ q.1.2.1.2.2 = 0 → gL τ 18 15 = q.1.2.1.2.1) (wh : gI τ 18 18 = whI q.1.2.2) : cST m σ τ q := ⟨f, ⟨e8, lm, e9⟩, fun y => absurd an y, fun _ => w, pr.symm, sd, by rw [e17, z.2.1, an], wh⟩
/-- a word alone -/
theorem cST_A {q : SR × Nat} (f : cqA τ σ) (z : cZ0 σ) (e9 : gI σ 18 9 = -1) (e8 : gI τ 18 8 = (q.2 : Int)) (lm : q.2 ≤ m) (w : gL τ 18 14 = wdR q.1.1.1 q.1.1.2.1 q.1.1.2.2.1 q.1.1.2.2.2.1 q.1.1.2.2.2.2) (an : q.1.2 = ((0, 0, 0), none)) : cST m σ τ q := by
  refine cST_s (ccq_A f) z e8 lm ((f.1 _ _ (by omega)).trans e9) w (by rw [an]) (f.1 _ _ (by omega)) ?_ ?_ ?_
  · rw [an, f.1 _ _ (by omega), z.1]
  · rw [an]
    exact fun y => absurd rfl y
  · rw [an, f.1 _ _ (by omega), z.2.2.1]
    rfl
theorem cE_c (f : ccq ρ σ) {e : Int} (h : cE ρ τ e) : cE σ τ e := ⟨ccq_t h.1 f, h.2⟩
/-- a number behind REG = -/
theorem T171 (h : cG σ t n m k) (z : cZ0 σ) (hr : isR r) (hx : x = 0 ∨ x = 1) (hw : gL σ 18 14 = wdR (bOf r) (iAnd r 15) 0 0 0) : okc (MM 171 [mR (some 18), mI r, mI x] σ) (some (mI (rVc (pPln t (tks t n) r x k)))) (fun τ => oR (pPln t (tks t n) r x k) (cE σ τ) (cST m σ τ)) := by
  obtain ⟨a1, a2, a3, a4, a5⟩ := cG_tk h h.2.2.1
  have km := cG_m h
  obtain ⟨G, hG⟩ : ∃ G, G = gL σ 23 k := ⟨_, rfl⟩
  have gv : tK (tks t n k) = 3 → G = tV (tks t n k) := fun k3 => hG.trans (a4 k3)
  obtain ⟨Y, hY⟩ : ∃ Y, Y = if x = 0 then iL 4294967295 else iL 2147483648 := ⟨_, rfl⟩
  have s26 : MM 171 [mR (some 18), mI r, mI x] σ = RR (lkB tb171) (B171_26, [some (mR (some 18)), some (mI r), some (mI x), none, none, none], [mL (sgV x G)], σ) := by
    rw [M171, e171_0, h.2.1, if_pos (g23' km), if_pos (g23' km), Int.toNat_natCast, ← hG]
    unfold sgV
    by_cases cm : x = 0
    · rw [if_pos cm, if_pos cm]
    · rw [if_neg cm, if_neg cm]
  have s200 : ∀ y : Int, RR (lkB tb171) (B171_169, [some (mR (some 18)), some (mI r), some (mI x), some (mL (sgV x G)), none, some (mI y)], [], σ) = RR (lkB tb171) (B171_200, [some (mR (some 18)), some (mI r), some (mI x), some (mL (sgV x G)), none, some (mI y)], [mL Y, mR (some 18)], sL σ 18 14 (wdR (iOr 176 (bOf r)) (iAnd r 15) 0 0 (lI (sgV x G)))) := fun y => by
    have ew : wdR (bOf r) (iAnd r 15) 0 0 0 ||| (iL 176 ||| lShl (sgV x G) 32) = wdR (iOr 176 (bOf r)) (iAnd r 15) 0 0 (lI (sgV x G)) := by
      rw [← BitVec.or_assoc, wd_o bOf_i (by omega), wd_i, iOr_c]
    rw [e171_169, hw, ew, hY]
    by_cases cm : x = 0
    · rw [if_pos cm, if_pos cm]
    · rw [if_neg cm, if_neg cm]
  have p169 : ∀ y : Int, okc (RR (lkB tb171) (B171_169, [some (mR (some 18)), some (mI r), some (mI x), some (mL (sgV x G)), none, some (mI y)], [], σ)) (some (mI (rVc (bS (pNum (tks t n) Y k) fun k2 => .inr ((((iOr 176 (bOf r), iAnd r 15, 0, 0, lI (sgV x (tV (tks t n k)))), (0, 0, 0), none), k2) : SR × Nat))))) (fun τ => oR (bS (pNum (tks t n) Y k) fun k2 => .inr ((((iOr 176 (bOf r), iAnd r 15, 0, 0, lI (sgV x (tV (tks t n k)))), (0, 0, 0), none), k2) : SR × Nat)) (cE σ τ) (cST m σ τ)) := fun y => by
    rw [s200 y, e171_200, T157 (cG_L h)]
    simp only [Option.bind_some, Option.toList_some, Option.toList_none, List.cons_append, List.nil_append]
    cases hp : pNum (tks t n) Y k with
    | inl e =>
      have he : e = (tB (tks t n k) : Int) := by
        unfold pNum at hp
        split at hp
        · cases hp
        · exact (Sum.inl.inj hp).symm
      show okc (RR (lkB tb171) (B171_203, [some (mR (some 18)), some (mI r), some (mI x), some (mL (sgV x G)), none, some (mI y)], [mI 0], sI (sL σ 18 14 (wdR (iOr 176 (bOf r)) (iAnd r 15) 0 0 (lI (sgV x G)))) 18 9 e)) (some (mI 0)) _
      rw [e171_203, if_pos bl0]
      exact okc_s ⟨ccq_t (ccq_I (by omega)) (ccq_L (by omega)), c9, by omega⟩
    | inr j2 =>
      have ej : j2 = k + 1 := mo_num hp
      have k3 : tK (tks t n k) = 3 := by
        unfold pNum at hp
        split at hp
        · rename_i z; exact z.1
        · cases hp
      have lt := cG_lt h (by rw [k3]; decide)
      rw [← gv k3]
      show okc (RR (lkB tb171) (B171_203, [some (mR (some 18)), some (mI r), some (mI x), some (mL (sgV x G)), none, some (mI y)], [mI 1], sI (sL σ 18 14 (wdR (iOr 176 (bOf r)) (iAnd r 15) 0 0 (lI (sgV x G)))) 18 8 (j2 : Int))) (some (mI 1)) _
      rw [e171_203, if_pos bl1]
      exact okc_s (cST_A (cqA_t cqA_8 cqA_L) z h.2.2.2 h8 (by show j2 ≤ m; omega) (by rw [gL_sI, h14]) rfl)
  rw [s26, e171_26, h.2.1, if_pos (g20' km), if_pos (g20' km), Int.toNat_natCast, a1]
  by_cases k3 : tK (tks t n k) = 3
  · have l1 := cG_lt h (by rw [k3]; decide)
    have km1 : k + 1 < 4001 := by
      have := h.1.2.2.1
      omega
    have s58 : okc (RR (lkB tb171) (B171_58, [some (mR (some 18)), some (mI r), some (mI x), some (mL (sgV x G)), none, none], [mI 1], σ)) (some (mI (rVc (pPln t (tks t n) r x k)))) (fun τ => oR (pPln t (tks t n) r x k) (cE σ τ) (cST m σ τ)) := by
      obtain ⟨b1, b2', b3, b4, b5⟩ := cG_tk h l1
      rw [e171_58, if_neg n10]
      by_cases cl : r < 16 ∧ nmP' t (tks t n (k + 1)) 71
      · have k2 : tK (tks t n (k + 1)) = 2 := nm_k cl.2
        have k1 : kC (tks t n (k + 1)) = 1 := by rw [kc_2']; exact k2
        rw [if_neg (show ¬ 16 ≤ r by omega), h.2.1, w32_s1 (show k < 100000 by omega), if_pos (g20' km1), Int.toNat_natCast, b1, if_neg (fun z => z k1), T146 h l1 k2 (j := 71) (by decide)]
        simp only [Option.bind_some, Option.toList_some, Option.toList_none, List.cons_append, List.nil_append]
        rw [e171_99, b2_yes cl.2, if_neg n10, wd_1 (show -2147483648 ≤ (24 : Int) ∧ (24 : Int) < 2147483648 by omega), wd_i, hi32w]
        obtain ⟨ρ, hρ⟩ : ∃ ρ, ρ = sI (sL (sL σ 18 14 (wdR 24 r 0 0 (lI (sgV x G)))) 18 15 (sgV x G &&& iL (-4294967296))) 18 16 1 := ⟨_, rfl⟩
        have fr : ccq ρ σ := by rw [hρ]; exact ccq_t (ccq_I (by omega)) (ccq_t (ccq_L (by omega)) (ccq_L (by omega)))
        have e8 : gI ρ 18 8 = (k : Int) := by rw [hρ, gI_sI, if_neg (by omega), gI_sL, gI_sL]; exact h.2.1
        have e9 : gI ρ 18 9 = -1 := by rw [hρ, gI_sI, if_neg (by omega), gI_sL, gI_sL]; exact h.2.2.2
        have e14 : gL ρ 18 14 = wdR 24 r 0 0 (lI (sgV x G)) := by rw [hρ, gL_sI, gL_sL, if_neg (by omega), h14]
        have e15 : gL ρ 18 15 = sgV x G &&& iL (-4294967296) := by rw [hρ, gL_sI, gL_sL, if_pos ⟨rfl, rfl⟩]
        have e16 : gI ρ 18 16 = 1 := by rw [hρ, gI_sI, if_pos ⟨rfl, rfl⟩]
        have e17 : gI ρ 18 17 = gI σ 18 17 := by rw [hρ, gI_sI, if_neg (by omega), gI_sL, gI_sL]
        have e18 : gI ρ 18 18 = -1 := by rw [hρ, gI_sI, if_neg (by omega), gI_sL, gI_sL]; exact z.2.2.1
        have hg : cG ρ t n m k := cG_q h fr e8 h.2.2.1 e9
        rw [← hρ]
        clear hρ
        obtain ⟨Y2, hY2⟩ : ∃ Y2, Y2 = if x = 0 then iL (-1) else iL (-9223372036854775808) := ⟨_, rfl⟩
        have epl : pPln t (tks t n) r x k = bS (pNum (tks t n) Y2 k) fun k2 => .inr ((((24, iAnd r 15, 0, 0, lI (sgV x (tV (tks t n k)))), (0, sgV x (tV (tks t n k)) &&& iL (-4294967296), 1), none), k2 + 1) : SR × Nat) := by
          unfold pPln pNum
          by_cases s0 : tkS (tks t n k) = 0
          · rw [if_neg (show ¬ ¬ (tK (tks t n k) = 3 ∧ tkS (tks t n k) = 0) from fun z => z ⟨k3, s0⟩), if_pos cl, hY2]
            rcases hx with x0 | x1
            · rw [if_neg (show ¬ (¬ x = 0 ∧ iL (-9223372036854775808) < tV (tks t n k)) from fun z => z.1 x0), if_pos x0, if_pos (show tK (tks t n k) = 3 ∧ tkS (tks t n k) = 0 ∧ ¬ iL (-1) < tV (tks t n k) from ⟨k3, s0, lt_m1⟩)]
              rfl
            · have x0 : ¬ x = 0 := by omega
              rw [if_neg x0]
              by_cases cv : iL (-9223372036854775808) < tV (tks t n k)
              · rw [if_pos (show ¬ x = 0 ∧ iL (-9223372036854775808) < tV (tks t n k) from ⟨x0, cv⟩), if_neg (show ¬ (tK (tks t n k) = 3 ∧ tkS (tks t n k) = 0 ∧ ¬ iL (-9223372036854775808) < tV (tks t n k)) from fun z => z.2.2 cv)]
                rfl
              · rw [if_neg (show ¬ (¬ x = 0 ∧ iL (-9223372036854775808) < tV (tks t n k)) from fun z => cv z.2), if_pos (show tK (tks t n k) = 3 ∧ tkS (tks t n k) = 0 ∧ ¬ iL (-9223372036854775808) < tV (tks t n k) from ⟨k3, s0, cv⟩)]
                rfl
          · rw [if_pos (show ¬ (tK (tks t n k) = 3 ∧ tkS (tks t n k) = 0) from fun z => s0 z.2), if_neg (show ¬ (tK (tks t n k) = 3 ∧ tkS (tks t n k) = 0 ∧ ¬ Y2 < tV (tks t n k)) from fun z => s0 z.2.1)]
            rfl
        have s149 : RR (lkB tb171) (B171_135, [some (mR (some 18)), some (mI r), some (mI x), some (mL (sgV x G)), none, some (mI 1)], [], ρ) = RR (lkB tb171) (B171_149, [some (mR (some 18)), some (mI r), some (mI x), some (mL (sgV x G)), none, some (mI 1)], [mL Y2, mR (some 18)], ρ) := by
          rw [e171_135, hY2]
          by_cases cm : x = 0
          · rw [if_pos cm, if_pos cm]
          · rw [if_neg cm, if_neg cm]
        rw [s149, epl, e171_149, T157 hg]
        simp only [Option.bind_some, Option.toList_some, Option.toList_none, List.cons_append, List.nil_append]
        cases hp : pNum (tks t n) Y2 k with
        | inl e =>
          have he : e = (tB (tks t n k) : Int) := by
            unfold pNum at hp
            split at hp
            · cases hp
            · exact (Sum.inl.inj hp).symm
          show okc (RR (lkB tb171) (B171_152, [some (mR (some 18)), some (mI r), some (mI x), some (mL (sgV x G)), none, some (mI 1)], [mI 0], sI ρ 18 9 e)) (some (mI 0)) _
          rw [e171_152, if_neg (fun z => z y00)]
          exact okc_s ⟨ccq_t (ccq_I (by omega)) fr, c9, by omega⟩
        | inr j2 =>
          have ej : j2 = k + 1 := mo_num hp
          subst ej
          have l2 : k + 1 + 1 ≤ m := cG_lt (cG_8 hg l1) (by rw [k2]; decide)
          show okc (RR (lkB tb171) (B171_152, [some (mR (some 18)), some (mI r), some (mI x), some (mL (sgV x G)), none, some (mI 1)], [mI 1], sI ρ 18 8 ((k + 1 : Nat) : Int))) (some (mI 1)) _
          rw [e171_152, if_pos n10, h8, w32_s1 (show k + 1 < 100000 by omega), ← gv k3]
          refine okc_s (cST_s (ccq_t (ccq_I (by omega)) (ccq_t (ccq_I (by omega)) fr)) z h8 l2 ?_ ?_ rfl ?_ ?_ (fun _ => ?_) ?_)
          · rw [gI_sI, if_neg (by omega), gI_sI, if_neg (by omega), e9]
          · rw [gL_sI, gL_sI, e14, and15' (show 0 ≤ r ∧ r ≤ 10 by omega)]
          · rw [gI_sI, if_neg (by omega), gI_sI, if_neg (by omega), e17]
          · rw [gI_sI, if_neg (by omega), gI_sI, if_neg (by omega), e16]
          · rw [gL_sI, gL_sI, e15]
          · rw [gI_sI, if_neg (by omega), gI_sI, if_neg (by omega), e18]
            rfl
      · have e : pPln t (tks t n) r x k = bS (pNum (tks t n) Y k) fun k2 => .inr ((((iOr 176 (bOf r), iAnd r 15, 0, 0, lI (sgV x (tV (tks t n k)))), (0, 0, 0), none), k2) : SR × Nat) := by
          unfold pPln pNum
          rw [← hY]
          by_cases s0 : tkS (tks t n k) = 0
          · rw [if_neg (show ¬ ¬ (tK (tks t n k) = 3 ∧ tkS (tks t n k) = 0) from fun z => z ⟨k3, s0⟩), if_neg cl]
            by_cases cv : Y < tV (tks t n k)
            · rw [if_pos cv, if_neg (show ¬ (tK (tks t n k) = 3 ∧ tkS (tks t n k) = 0 ∧ ¬ Y < tV (tks t n k)) from fun z => z.2.2 cv)]
              rfl
            · rw [if_neg cv, if_pos (show tK (tks t n k) = 3 ∧ tkS (tks t n k) = 0 ∧ ¬ Y < tV (tks t n k) from ⟨k3, s0, cv⟩)]
              rfl
          · rw [if_pos (show ¬ (tK (tks t n k) = 3 ∧ tkS (tks t n k) = 0) from fun z => s0 z.2), if_neg (show ¬ (tK (tks t n k) = 3 ∧ tkS (tks t n k) = 0 ∧ ¬ Y < tV (tks t n k)) from fun z => s0 z.2.1)]
            rfl
        rw [e]
        by_cases r16 : 16 ≤ r
        · rw [if_pos r16]
          exact p169 1
        · rw [if_neg r16, h.2.1, w32_s1 (show k < 100000 by omega), if_pos (g20' km1), Int.toNat_natCast, b1]
          by_cases k2 : tK (tks t n (k + 1)) = 2
          · have k1 : kC (tks t n (k + 1)) = 1 := by rw [kc_2']; exact k2
            rw [if_neg (fun z => z k1), T146 h l1 k2 (j := 71) (by decide)]
            simp only [Option.bind_some, Option.toList_some, Option.toList_none, List.cons_append, List.nil_append]
            rw [e171_99, b2_no (fun z => cl ⟨by omega, z⟩), if_pos y00]
            exact p169 1
          · have k1 : ¬ kC (tks t n (k + 1)) = 1 := by rw [kc_2']; exact k2
            rw [if_pos k1]
            exact p169 1
    by_cases s0 : tkS (tks t n k) = 0
    · have c2 : kC (tks t n k) = 2 := by rw [kc_n']; exact ⟨k3, s0⟩
      rw [if_pos c2, e171_53]
      exact s58
    · have c3 : kC (tks t n k) = 3 := by rw [kc_h']; exact ⟨k3, s0⟩
      rw [if_neg (show ¬ kC (tks t n k) = 2 by omega), if_neg (show ¬ ¬ kC (tks t n k) = 3 from fun z => z c3), e171_53]
      exact s58
  · have c2 : ¬ kC (tks t n k) = 2 := by rw [kc_n']; exact fun z => k3 z.1
    have c3 : ¬ kC (tks t n k) = 3 := by rw [kc_h']; exact fun z => k3 z.1
    have e : pPln t (tks t n) r x k = bS (pNum (tks t n) Y k) fun k2 => .inr ((((iOr 176 (bOf r), iAnd r 15, 0, 0, lI (sgV x (tV (tks t n k)))), (0, 0, 0), none), k2) : SR × Nat) := by
      unfold pPln pNum
      rw [if_pos (show ¬ (tK (tks t n k) = 3 ∧ tkS (tks t n k) = 0) from fun z => k3 z.1), if_neg (show ¬ (tK (tks t n k) = 3 ∧ tkS (tks t n k) = 0 ∧ ¬ Y < tV (tks t n k)) from fun z => k3 z.1)]
      rfl
    rw [e, if_neg c2, if_pos c3, e171_58, if_pos y00]
    exact p169 0
/-- a cast, from its size on -/
def pCas (t : Nat → Int) (T : Nat → TK) (r : Int) (j : Nat) : Int ⊕ (SR × Nat) := if csT t (T j) < 0 then .inl (tB (T j) : Int) else if ¬ sgn T 41 (j + 1) then .inl (tB (T (j + 1)) : Int) else bS (pRgt t T (wOf r) (j + 2)) fun q => .inr (((iOr 184 (bOf r), iAnd r 15, q.1, csT t (T j), 0), (0, 0, 0), none), q.2)
theorem cas_o : ∀ b : Fin 8, iOr (iOr ((b : Nat) : Int) 176) 8 = iOr 184 ((b : Nat) : Int) ∧ iOr (iOr ((b : Nat) : Int) 176) 8 = iOr (iOr 176 ((b : Nat) : Int)) 8 := by decide
theorem cas_b : iOr (iOr (bOf r) 176) 8 = iOr 184 (bOf r) ∧ iOr (iOr (bOf r) 176) 8 = iOr (iOr 176 (bOf r)) 8 := by
  have b := bOf_b (r := r)
  have := cas_o ⟨(bOf r).toNat, by omega⟩
  simp only at this
  rwa [show (((bOf r).toNat : Nat) : Int) = bOf r by omega] at this
theorem T172 (h : cG σ t n m k) (z : cZ0 σ) (hr : isR r) (hw : gL σ 18 14 = wdR (bOf r) (iAnd r 15) 0 0 0) : okc (MM 172 [mR (some 18), mI r] σ) (some (mI (rVc (pCas t (tks t n) r k)))) (fun τ => oR (pCas t (tks t n) r k) (cE σ τ) (cST m σ τ)) := by
  have km := cG_m h
  have main : ∀ y : Int, y = 8 ∨ y = 16 ∨ y = 32 → csT t (tks t n k) = y → tK (tks t n k) = 2 → okc (RR (lkB tb172) (B172_46, [some (mR (some 18)), some (mI r), none], [mI y], σ)) (some (mI (rVc (pCas t (tks t n) r k)))) (fun τ => oR (pCas t (tks t n) r k) (cE σ τ) (cST m σ τ)) := fun y hy cs k2 => by
    have l1 := cG_lt h (by rw [k2]; decide)
    unfold pCas
    rw [cs, if_neg (show ¬ y < 0 by omega), e172_46, if_pos (show ¬ y = 0 by omega), h.2.1, w32_s1 (show k < 100000 by omega), gL_sI, hw, wd_c bOf_i hy]
    have h1 : cG (sL (sI σ 18 8 ((k + 1 : Nat) : Int)) 18 14 (wdR (iOr (bOf r) 176) (iAnd r 15) 0 y 0)) t n m (k + 1) := cG_L (cG_8 h l1)
    have f1 : cqA (sL (sI σ 18 8 ((k + 1 : Nat) : Int)) 18 14 (wdR (iOr (bOf r) 176) (iAnd r 15) 0 y 0)) σ := cqA_t cqA_L cqA_8
    have w1 : gL (sL (sI σ 18 8 ((k + 1 : Nat) : Int)) 18 14 (wdR (iOr (bOf r) 176) (iAnd r 15) 0 y 0)) 18 14 = wdR (iOr (bOf r) 176) (iAnd r 15) 0 y 0 := h14
    generalize sL (sI σ 18 8 ((k + 1 : Nat) : Int)) 18 14 (wdR (iOr (bOf r) 176) (iAnd r 15) 0 y 0) = ρ1 at *
    rw [T148 (s := 41) h1 (by decide) (by decide)]
    simp only [Option.bind_some, Option.toList_some, Option.toList_none, List.cons_append, List.nil_append]
    rw [e172_90]
    by_cases c1 : sgn (tks t n) 41 (k + 1)
    · have l2 := cG_lt h1 (by rw [c1.1]; decide)
      have h2 : cG (sI ρ1 18 8 ((k + 1 + 1 : Nat) : Int)) t n m (k + 2) := cG_8 h1 l2
      have f2 : cqA (sI ρ1 18 8 ((k + 1 + 1 : Nat) : Int)) σ := cqA_t cqA_8 f1
      have w2 : gL (sI ρ1 18 8 ((k + 1 + 1 : Nat) : Int)) 18 14 = wdR (iOr (bOf r) 176) (iAnd r 15) 0 y 0 := w1
      rw [b2_yes c1, if_neg n10, if_pos c1, if_neg (show ¬ ¬ sgn (tks t n) 41 (k + 1) from fun z => z c1)]
      generalize sI ρ1 18 8 ((k + 1 + 1 : Nat) : Int) = ρ2 at *
      obtain ⟨τ, e, p⟩ := T161 h2 (show 0 ≤ r ∧ r ≤ 26 by omega) w2 iOr_in
      rw [e]
      simp only [Option.bind_some, Option.toList_some, Option.toList_none, List.cons_append, List.nil_append]
      rw [e172_98]
      cases hp : pRgt t (tks t n) (wOf r) (k + 2) with
      | inl e =>
        rw [hp] at p
        show okc (if (0 : Int) = 0 then _ else _) (some (mI 0)) _
        rw [if_pos y00, e172_105]
        exact okc_s (cE_c (ccq_A f2) p)
      | inr q =>
        rw [hp] at p
        show okc (if (1 : Int) = 0 then _ else _) (some (mI 1)) _
        rw [if_neg n10]
        obtain ⟨p1, p2, p3, p4⟩ := p
        exact okc_s (cST_A (cqA_t p1 f2) z h.2.2.2 p2 p3 (by rw [p4, cas_b.1]) rfl)
    · rw [b2_no c1, if_pos y00, if_neg c1, if_pos (show ¬ sgn (tks t n) 41 (k + 1) from c1), e172_105]
      exact okc_s (cE_m h1 (ccq_A f1))
  rw [M172, e172_0, T145 (j := 72) h (by decide)]
  simp only [Option.bind_some, Option.toList_some, Option.toList_none, List.cons_append, List.nil_append]
  rw [e172_7]
  by_cases b1 : nmP' t (tks t n k) 72
  · rw [b2_yes b1, if_neg n10]
    exact main 8 (Or.inl rfl) (if_pos b1) (nm_k b1)
  · rw [b2_no b1, if_pos y00, T145 (j := 73) h (by decide)]
    simp only [Option.bind_some, Option.toList_some, Option.toList_none, List.cons_append, List.nil_append]
    rw [e172_22]
    by_cases b2 : nmP' t (tks t n k) 73
    · rw [b2_yes b2, if_neg n10]
      exact main 16 (Or.inr (Or.inl rfl)) (by unfold csT; rw [if_neg b1, if_pos b2]) (nm_k b2)
    · rw [b2_no b2, if_pos y00, T145 (j := 74) h (by decide)]
      simp only [Option.bind_some, Option.toList_some, Option.toList_none, List.cons_append, List.nil_append]
      rw [e172_37]
      by_cases b3 : nmP' t (tks t n k) 74
      · rw [b2_yes b3, if_neg n10]
        exact main 32 (Or.inr (Or.inr rfl)) (by unfold csT; rw [if_neg b1, if_neg b2, if_pos b3]) (nm_k b3)
      · have cs : csT t (tks t n k) = -1 := by unfold csT; rw [if_neg b1, if_neg b2, if_neg b3]
        unfold pCas
        rw [cs, if_pos (show (-1 : Int) < 0 by decide), b2_no b3, if_pos y00, e172_46, if_neg (fun z => z y00), T144 h]
        simp only [Option.bind_some, Option.toList_some, Option.toList_none, List.cons_append, List.nil_append]
        rw [e172_55, if_pos bl0]
        exact okc_s (cE_m h (ccq_r _))
end CNM
