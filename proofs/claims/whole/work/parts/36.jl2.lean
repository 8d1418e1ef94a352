/-! ===== the reference's judge: places, bytes of stacks ===== -/
theorem iLt {x : Int} (h0 : -9223372036854775808 ≤ x) (h1 : x < 9223372036854775808) : (iL x).toInt = x := by
  unfold iL
  rw [BitVec.toInt_ofInt]
  show Int.bmod x 18446744073709551616 = x
  rw [Int.bmod_def]
  omega
theorem iLa (x y : Int) : iL x + iL y = iL (x + y) := (BitVec.ofInt_add x y).symm
theorem lIi {x : Int} (h0 : -2147483648 ≤ x) (h1 : x < 2147483648) : lI (iL x) = x := by
  unfold lI
  rw [iLt (by omega) (by omega)]
  exact w32_i h0 h1
theorem b2_yes {p : Prop} {d : Decidable p} (h : p) : @b2 p d = 1 := if_pos h
theorem b2_no {p : Prop} {d : Decidable p} (h : ¬ p) : @b2 p d = 0 := if_neg h
theorem b2_c {p q : Prop} {d : Decidable p} {e : Decidable q} (h : p ↔ q) : @b2 p d = @b2 q e := by
  by_cases c : p
  · rw [b2_yes c, b2_yes (h.mp c)]
  · rw [b2_no c, b2_no (fun z => c (h.mpr z))]
theorem tdiv_n (b n : Nat) : Int.tdiv (b : Int) (n : Int) = ((b / n : Nat) : Int) := rfl
theorem tmod_n (b n : Nat) : Int.tmod (b : Int) (n : Int) = ((b % n : Nat) : Int) := rfl
theorem tdiv8 (b : Nat) : Int.tdiv (b : Int) 8 = ((b / 8 : Nat) : Int) := rfl
theorem tmod8 (b : Nat) : Int.tmod (b : Int) 8 = ((b % 8 : Nat) : Int) := rfl
/-- the maps are those -/
def EO (σ : MS) (E : EV) : Prop := ∀ m, m < 8 → gI σ 97 m = E.2.1 m ∧ gI σ 98 m = E.2.2 m ∧ (gI σ 95 m = 0 → E.1 m < 0) ∧ (¬ gI σ 95 m = 0 → E.1 m = gI σ 96 m ∧ 0 ≤ E.1 m)
theorem EO_sq {σ τ : MS} {E : EV} (h : sqc τ σ) (o : EO σ E) : EO τ E := fun m hm => by
  rw [sqc_I h (by omega) (by omega), sqc_I h (by omega) (by omega), sqc_I h (by omega) (by omega), sqc_I h (by omega) (by omega)]
  exact o m hm
theorem T500 {x y b : Int} {σ : MS} (hx : inB x) (hb : b = 16 ∨ b = 32 ∨ b = 64) : MM 500 [mR (some 80), mI x, mI y, mI b] σ = some (none, wrV σ x.toNat (numV (trnN (decide (y = 212)) b.toNat (vn (aV σ x.toNat))))) := by
  have e2 : w32 (Int.tdiv b 8) = ((b.toNat / 8 : Nat) : Int) := by rcases hb with rfl | rfl | rfl <;> decide
  have eb : b = ((b.toNat : Nat) : Int) := by omega
  have t7 := fun v => T427 (x := v) (b := b.toNat) (σ := σ) (by omega)
  rw [← eb] at t7
  unfold trnN trnJ
  by_cases c : gL σ 113 x.toNat = 0#64 <;> by_cases d : y = 212
  all_goals (simp only [M500, e500_0, e500_5, e500_27, e500_40, e500_43, e500_55, Option.getD_some, Option.bind_some, Option.toList_some, Option.toList_none, List.cons_append, List.nil_append, and_self, and_true, true_and, false_and, and_false, ite_self, not_true_eq_false, not_false_eq_true, reduceIte, Nat.reduceEqDiff, ab_I, ab_L, ab_R, ao_I, ao_L, ao_R, gL_sL, gI_sI, gR_sR, gI_sL, gI_sR, gL_sI, gL_sR, gR_sI, gR_sL, g_112, hx.1, hx.2, T439 hx.1 hx.2, b2_0', b2_n', c, d, e2, T437 hx.1 hx.2 (show b.toNat / 8 ≤ 8 by omega), T426 hb, t7, T433 hx.1 hx.2, oneI] <;> simp [show isC (vn (aV σ x.toNat)) = (gL σ 113 x.toNat = 0#64) from rfl, c, d] <;> rfl)
theorem T501 {d y w o : Int} {σ : MS} (hd : inB d) (hy : inB y) (nd : ¬ d = 32659) (ny : ¬ y = 32659) (hw : w = 0 ∨ w = 1) (h0 : gI σ 80 90 = 0) (ho : o = 0 ∨ o = 8 ∨ o = 16 ∨ o = 32) (hk : -128 ≤ vk (aV σ y.toNat) ∧ vk (aV σ y.toNat) < 128) : okc (MM 501 [mR (some 80), mI d, mI y, mI w, mI o] σ) none (fun τ =>
    if w = 1 ∧ o = 0 then τ = wrV σ d.toNat (aV σ y.toNat)
    else if ¬ wntN (aV σ y.toNat) (aV σ y.toNat) = 0 then τ = flt σ (wntN (aV σ y.toNat) (aV σ y.toNat))
    else sqc τ (wrV σ d.toNat (numV (if o = 0 then cutT (cutT (vn (aV σ y.toNat))) else if w = 1 then extN o.toNat (vn (aV σ y.toNat)) else extW o.toNat (cutT (vn (aV σ y.toNat))))))) := by
  have eo : o = ((o.toNat : Nat) : Int) := by omega
  have hC : inB 32659 := by decide
  have nd' : ¬ (32659 : Int).toNat = d.toNat := by have := hd.1; omega
  have nd2 : ¬ d.toNat = (32659 : Int).toNat := by have := hd.1; omega
  by_cases c : w = 1 ∧ o = 0
  · simp only [M501, e501_0, e501_15, e501_16, e501_22, e501_43, e501_51, e501_67, e501_78, e501_89, Option.getD_some, Option.bind_some, Option.toList_some, Option.toList_none, List.cons_append, List.nil_append, and_self, and_true, true_and, false_and, and_false, ite_self, not_true_eq_false, not_false_eq_true, reduceIte, Nat.reduceEqDiff, ab_I, ab_L, ab_R, ao_I, ao_L, ao_R, gL_sL, gI_sI, gR_sR, gI_sL, gI_sR, gL_sI, gL_sR, gR_sI, gR_sL, c.1, c.2, oneI, T430 hy hd hk]
    exact okc_s (by first | rfl | rw [if_pos ⟨rfl, rfl⟩])
  · have s16 : MM 501 [mR (some 80), mI d, mI y, mI w, mI o] σ = RR (lkB tb501) (B501_16, [some (mR (some 80)), some (mI d), some (mI y), some (mI w), some (mI o)], [], σ) := by
      rcases hw with rfl | rfl
      · simp only [M501, e501_0, Option.getD_some, Option.bind_some, Option.toList_some, Option.toList_none, List.cons_append, List.nil_append, and_self, and_true, true_and, false_and, and_false, ite_self, not_true_eq_false, not_false_eq_true, reduceIte, Nat.reduceEqDiff, ab_I, ab_L, ab_R, ao_I, ao_L, ao_R, gL_sL, gI_sI, gR_sR, gI_sL, gI_sR, gL_sI, gL_sR, gR_sI, gR_sL]
      · have : ¬ o = 0 := fun e => c ⟨rfl, e⟩
        simp only [M501, e501_0, Option.getD_some, Option.bind_some, Option.toList_some, Option.toList_none, List.cons_append, List.nil_append, and_self, and_true, true_and, false_and, and_false, ite_self, not_true_eq_false, not_false_eq_true, reduceIte, Nat.reduceEqDiff, ab_I, ab_L, ab_R, ao_I, ao_L, ao_R, gL_sL, gI_sI, gR_sR, gI_sL, gI_sR, gL_sI, gL_sR, gR_sI, gR_sL, oneI, this]
    rw [s16]
    by_cases f : wntN (aV σ y.toNat) (aV σ y.toNat) = 0
    · have s : RR (lkB tb501) (B501_16, [some (mR (some 80)), some (mI d), some (mI y), some (mI w), some (mI o)], [], σ) = RR (lkB tb501) (B501_22, [some (mR (some 80)), some (mI d), some (mI y), some (mI w), some (mI o)], [], σ) := by
        simp only [e501_16, T497 hy hy, f, flt_0, Option.getD_some, Option.bind_some, Option.toList_some, Option.toList_none, List.cons_append, List.nil_append, and_self, and_true, true_and, false_and, and_false, ite_self, not_true_eq_false, not_false_eq_true, reduceIte, Nat.reduceEqDiff, ab_I, ab_L, ab_R, ao_I, ao_L, ao_R, gL_sL, gI_sI, gR_sR, gI_sL, gI_sR, gL_sI, gL_sR, gR_sI, gR_sL]
      rw [s]
      refine okc_m (P := fun τ => if w = 1 ∧ o = 0 then τ = wrV σ d.toNat (aV σ y.toNat) else if ¬ wntN (aV σ y.toNat) (aV σ y.toNat) = 0 then τ = flt σ (wntN (aV σ y.toNat) (aV σ y.toNat)) else sqc τ (wrV σ d.toNat (numV (if o = 0 then cutT (cutT (vn (aV σ y.toNat))) else if w = 1 then extN o.toNat (vn (aV σ y.toNat)) else extW o.toNat (cutT (vn (aV σ y.toNat))))))) (Q := fun τ => sqc τ (wrV σ d.toNat (numV (if o = 0 then cutT (cutT (vn (aV σ y.toNat))) else if w = 1 then extN o.toNat (vn (aV σ y.toNat)) else extW o.toNat (cutT (vn (aV σ y.toNat))))))) ?_ (fun τ q => by rw [if_neg c, if_neg (not_not_intro f)]; exact q)
      by_cases o0 : o = 0
      · rw [if_pos o0]
        simp only [e501_0, e501_15, e501_16, e501_22, e501_43, e501_51, e501_67, e501_78, e501_89, Option.getD_some, Option.bind_some, Option.toList_some, Option.toList_none, List.cons_append, List.nil_append, and_self, and_true, true_and, false_and, and_false, ite_self, not_true_eq_false, not_false_eq_true, reduceIte, Nat.reduceEqDiff, ab_I, ab_L, ab_R, ao_I, ao_L, ao_R, gL_sL, gI_sI, gR_sR, gI_sL, gI_sR, gL_sI, gL_sR, gR_sI, gR_sL, h0, o0, T454 hC hy, T454 hd hC, aV_same, vn, numV]
        refine okc_s ?_
        exact sqc_wV (sqc_w (by decide))
      · rw [if_neg o0]
        rcases hw with rfl | rfl
        · rw [if_neg (by decide)]
          have t := fun τ => T456n (σ := τ) (b := o.toNat) hd hC (by omega)
          rw [← eo] at t
          simp only [e501_0, e501_15, e501_16, e501_22, e501_43, e501_51, e501_67, e501_78, e501_89, Option.getD_some, Option.bind_some, Option.toList_some, Option.toList_none, List.cons_append, List.nil_append, and_self, and_true, true_and, false_and, and_false, ite_self, not_true_eq_false, not_false_eq_true, reduceIte, Nat.reduceEqDiff, ab_I, ab_L, ab_R, ao_I, ao_L, ao_R, gL_sL, gI_sI, gR_sR, gI_sL, gI_sR, gL_sI, gL_sR, gR_sI, gR_sL, h0, o0, T454 hC hy, t, aV_same, vn, numV]
          refine okc_s ?_
          exact sqc_wV (sqc_w (by decide))
        · rw [if_pos rfl]
          have t := fun τ => T456w (σ := τ) (b := o.toNat) hd hy (by omega)
          rw [← eo] at t
          simp only [e501_0, e501_15, e501_16, e501_22, e501_43, e501_51, e501_67, e501_78, e501_89, Option.getD_some, Option.bind_some, Option.toList_some, Option.toList_none, List.cons_append, List.nil_append, and_self, and_true, true_and, false_and, and_false, ite_self, not_true_eq_false, not_false_eq_true, reduceIte, Nat.reduceEqDiff, ab_I, ab_L, ab_R, ao_I, ao_L, ao_R, gL_sL, gI_sI, gR_sR, gI_sL, gI_sR, gL_sI, gL_sR, gR_sI, gR_sL, h0, o0, oneI, t]
          exact okc_s (sqc_r _)
    · have h9 : ¬ gI (flt σ (wntN (aV σ y.toNat) (aV σ y.toNat))) 80 90 = 0 := by rw [fl_g, h0, fst0]; exact f
      simp only [e501_16, e501_22, T497 hy hy, Option.getD_some, Option.bind_some, Option.toList_some, Option.toList_none, List.cons_append, List.nil_append, and_self, and_true, true_and, false_and, and_false, ite_self, not_true_eq_false, not_false_eq_true, reduceIte, Nat.reduceEqDiff, ab_I, ab_L, ab_R, ao_I, ao_L, ao_R, gL_sL, gI_sI, gR_sR, gI_sL, gI_sR, gL_sI, gL_sR, gR_sI, gR_sL, h9]
      exact okc_s (by rw [if_neg c, if_pos f])
/-- a place and a number -/
theorem T502 {d x n c : Int} {σ : MS} (hd : inB d) (hx : inB x) (hn : inB n) (nd : d < 32656) (nx : ¬ x = 32661 ∧ ¬ x = 32662 ∧ ¬ x = 32658) (nn : ¬ n = 32661 ∧ ¬ n = 32662 ∧ ¬ n = 32658) (hc : c = 0 ∨ c = 16) (h0 : gI σ 80 90 = 0) (hm : mvs (aV σ x.toNat)) (ho : -4096 ≤ vo (aV σ x.toNat) ∧ vo (aV σ x.toNat) ≤ 4096) (hk : -128 ≤ vk (aV σ n.toNat) ∧ vk (aV σ n.toNat) < 128) (ht : 0 ≤ gI σ 80 85 ∧ gI σ 80 85 < 1000000) : okc (MM 502 [mR (some 80), mI d, mI x, mI n, mI c] σ) none (fun τ =>
    if (shfV (aV σ x.toNat) (vn (aV σ n.toNat)) c (gI σ 80 85)).1 = 0 then sqc τ (wrV (sI σ 80 85 (shfV (aV σ x.toNat) (vn (aV σ n.toNat)) c (gI σ 80 85)).2.2) d.toNat (shfV (aV σ x.toNat) (vn (aV σ n.toNat)) c (gI σ 80 85)).2.1)
    else sqc τ (flt σ (shfV (aV σ x.toNat) (vn (aV σ n.toNat)) c (gI σ 80 85)).1)) := by
  have km : -128 ≤ vk (aV σ x.toNat) ∧ vk (aV σ x.toNat) < 128 := by rcases hm with k | k | k | k <;> omega
  have e85 : sI σ 80 85 (gI σ 80 85) = σ := sI_eta σ 80 85
  by_cases k : gL σ 113 n.toNat = 0#64
  · have kc : isC (vn (aV σ n.toNat)) := k
    generalize hv : (if c = 0 then jV (vn (aV σ n.toNat)) else - jV (vn (aV σ n.toNat))) = v
    have s29 : MM 502 [mR (some 80), mI d, mI x, mI n, mI c] σ = RR (lkB tb502) (B502_29, [some (mR (some 80)), some (mI d), some (mI x), some (mI n), some (mI c), none, none, none, none, none], [mL v], σ) := by
      rcases hc with rfl | rfl
      · rw [if_pos rfl] at hv
        subst hv
        simp only [M502, e502_0, e502_5, Option.getD_some, Option.bind_some, Option.toList_some, Option.toList_none, List.cons_append, List.nil_append, and_self, and_true, true_and, false_and, and_false, ite_self, not_true_eq_false, not_false_eq_true, reduceIte, Nat.reduceEqDiff, ab_I, ab_L, ab_R, ao_I, ao_L, ao_R, gL_sL, gI_sI, gR_sR, gI_sL, gI_sR, gL_sI, gL_sR, gR_sI, gR_sL, g_112, g_113, g_114, g_115, g_116, g_117, g_118, g_119, g_121, g_122, hn.1, hn.2, T439 hn.1 hn.2, b2_0', b2_n', k, oneI]
        rfl
      · rw [if_neg (by decide)] at hv
        subst hv
        simp only [M502, e502_0, e502_5, Option.getD_some, Option.bind_some, Option.toList_some, Option.toList_none, List.cons_append, List.nil_append, and_self, and_true, true_and, false_and, and_false, ite_self, not_true_eq_false, not_false_eq_true, reduceIte, Nat.reduceEqDiff, ab_I, ab_L, ab_R, ao_I, ao_L, ao_R, gL_sL, gI_sI, gR_sR, gI_sL, gI_sR, gL_sI, gL_sR, gR_sI, gR_sL, g_112, g_113, g_114, g_115, g_116, g_117, g_118, g_119, g_121, g_122, hn.1, hn.2, T439 hn.1 hn.2, b2_0', b2_n', k, oneI, Int.reduceEq]
        rfl
    rw [s29]
    have un : shfV (aV σ x.toNat) (vn (aV σ n.toNat)) c (gI σ 80 85) = if v.toInt < -8192 ∨ 8192 < v.toInt ∨ vo (aV σ x.toNat) + v.toInt < -4096 ∨ 4096 < vo (aV σ x.toNat) + v.toInt then (5, aV σ x.toNat, gI σ 80 85) else (0, (vk (aV σ x.toNat), vn (aV σ x.toNat), vo (aV σ x.toNat) + v.toInt, vw (aV σ x.toNat), vr (aV σ x.toNat), vt (aV σ x.toNat)), gI σ 80 85) := by
      unfold shfV
      rw [if_pos kc, hv]
    rw [un]
    have i1 : (iL (-8192)).toInt = -8192 := by decide
    have i2 : (iL 8192).toInt = 8192 := by decide
    have i3 : (iL (-4096)).toInt = -4096 := by decide
    have i4 : (iL 4096).toInt = 4096 := by decide
    have i5 : (iL 9999).toInt = 9999 := by decide
    by_cases r : v.toInt < -8192 ∨ 8192 < v.toInt
    · rw [if_pos (by omega)]
      have s58 : RR (lkB tb502) (B502_29, [some (mR (some 80)), some (mI d), some (mI x), some (mI n), some (mI c), none, none, none, none, none], [mL v], σ) = RR (lkB tb502) (B502_58, [some (mR (some 80)), some (mI d), some (mI x), some (mI n), some (mI c), some (mL v), none, none, none, none], [], σ) := by
        rw [e502_29, i1, i2]
        by_cases r1 : v.toInt < -8192
        · rw [if_pos r1]
        · rw [if_neg r1, if_pos (by omega)]
      rw [s58]
      simp only [e502_58, e502_63, e502_86, e502_106, e502_111, Option.getD_some, Option.bind_some, Option.toList_some, Option.toList_none, List.cons_append, List.nil_append, and_self, and_true, true_and, false_and, and_false, ite_self, not_true_eq_false, not_false_eq_true, reduceIte, Nat.reduceEqDiff, ab_I, ab_L, ab_R, ao_I, ao_L, ao_R, gL_sL, gI_sI, gR_sR, gI_sL, gI_sR, gL_sI, gL_sR, gR_sI, gR_sL, i3, i4, i5, oneI, Int.reduceLT, Int.reduceLE, T473]
      exact okc_s (by rw [if_neg (by decide)]; exact sqc_r _)
    · have hmin : ¬ v = iL (-9223372036854775808) := fun e => by
        rw [e] at r
        exact r (Or.inl (by decide))
      have ea : (iL (gI σ 119 x.toNat) + v).toInt = vo (aV σ x.toNat) + v.toInt := by
        have : v = iL v.toInt := by unfold iL; rw [BitVec.ofInt_toInt]
        rw [this, iLa, iLt (by have : gI σ 119 x.toNat = vo (aV σ x.toNat) := rfl; omega) (by have : gI σ 119 x.toNat = vo (aV σ x.toNat) := rfl; omega), iLt (by omega) (by omega)]
        rfl
      have el : lI (iL (gI σ 119 x.toNat) + v) = vo (aV σ x.toNat) + v.toInt ∨ ¬ (-4096 ≤ vo (aV σ x.toNat) + v.toInt ∧ vo (aV σ x.toNat) + v.toInt ≤ 4096) := by
        by_cases z : -4096 ≤ vo (aV σ x.toNat) + v.toInt ∧ vo (aV σ x.toNat) + v.toInt ≤ 4096
        · left
          unfold lI
          rw [ea]
          exact w32_i (by omega) (by omega)
        · exact Or.inr z
      have r1 : ¬ v.toInt < -8192 := fun q => r (Or.inl q)
      have r2 : ¬ 8192 < v.toInt := fun q => r (Or.inr q)
      have s86 : RR (lkB tb502) (B502_29, [some (mR (some 80)), some (mI d), some (mI x), some (mI n), some (mI c), none, none, none, none, none], [mL v], σ) = RR (lkB tb502) (B502_86, [some (mR (some 80)), some (mI d), some (mI x), some (mI n), some (mI c), some (mL v), none, some (mI 0), none, none], [mL (iL (gI σ 119 x.toNat) + v)], σ) := by
        simp only [e502_29, e502_63, Option.getD_some, Option.bind_some, Option.toList_some, Option.toList_none, List.cons_append, List.nil_append, and_self, and_true, true_and, false_and, and_false, ite_self, not_true_eq_false, not_false_eq_true, reduceIte, Nat.reduceEqDiff, ab_I, ab_L, ab_R, ao_I, ao_L, ao_R, gL_sL, gI_sI, gR_sR, gI_sL, gI_sR, gL_sI, gL_sR, gR_sI, gR_sL, g_112, g_113, g_114, g_115, g_116, g_117, g_118, g_119, g_121, g_122, i1, i2, r1, r2, hmin, hx.1, hx.2]
      rw [s86, e502_86, i3, i4, ea]
      by_cases r3 : vo (aV σ x.toNat) + v.toInt < -4096
      · rw [if_pos r3, if_pos (by omega)]
        simp only [e502_106, e502_111, Option.getD_some, Option.bind_some, Option.toList_some, Option.toList_none, List.cons_append, List.nil_append, and_self, and_true, true_and, false_and, and_false, ite_self, not_true_eq_false, not_false_eq_true, reduceIte, Nat.reduceEqDiff, ab_I, ab_L, ab_R, ao_I, ao_L, ao_R, gL_sL, gI_sI, gR_sR, gI_sL, gI_sR, gL_sI, gL_sR, gR_sI, gR_sL, T473]
        exact okc_s (by rw [if_neg (by decide)]; exact sqc_r _)
      · rw [if_neg r3]
        by_cases r4 : vo (aV σ x.toNat) + v.toInt ≤ 4096
        · rw [if_pos r4, if_neg (by omega)]
          have el := el.resolve_right (fun q => q ⟨by omega, r4⟩)
          simp only [e502_118, Option.getD_some, Option.bind_some, Option.toList_some, Option.toList_none, List.cons_append, List.nil_append, and_self, and_true, true_and, false_and, and_false, ite_self, not_true_eq_false, not_false_eq_true, reduceIte, Nat.reduceEqDiff, ab_I, ab_L, ab_R, ao_I, ao_L, ao_R, gL_sL, gI_sI, gR_sR, gI_sL, gI_sR, gL_sI, gL_sR, gR_sI, gR_sL, g_112, g_113, g_114, g_115, g_116, g_117, g_118, g_119, g_121, g_122, T430 hx hd km, hd.1, hd.2, el, p119, aV_same, wrV_same]
          refine okc_s ?_
          try rw [if_pos rfl]
          rw [e85]
          exact sqc_r _
        · rw [if_neg r4, if_pos (by omega)]
          simp only [e502_106, e502_111, Option.getD_some, Option.bind_some, Option.toList_some, Option.toList_none, List.cons_append, List.nil_append, and_self, and_true, true_and, false_and, and_false, ite_self, not_true_eq_false, not_false_eq_true, reduceIte, Nat.reduceEqDiff, ab_I, ab_L, ab_R, ao_I, ao_L, ao_R, gL_sL, gI_sI, gR_sR, gI_sL, gI_sR, gL_sI, gL_sR, gR_sI, gR_sL, T473]
          exact okc_s (by rw [if_neg (by decide)]; exact sqc_r _)
  · have kc : ¬ isC (vn (aV σ n.toNat)) := k
    by_cases q4 : ¬ c = 0 ∨ vk (aV σ x.toNat) = 3
    · have un : shfV (aV σ x.toNat) (vn (aV σ n.toNat)) c (gI σ 80 85) = (4, aV σ x.toNat, gI σ 80 85) := by
        unfold shfV
        rw [if_neg kc, if_pos q4]
      rw [un]
      have s143 : MM 502 [mR (some 80), mI d, mI x, mI n, mI c] σ = RR (lkB tb502) (B502_143, [some (mR (some 80)), some (mI d), some (mI x), some (mI n), some (mI c), none, none, none, none, none], [], σ) := by
        by_cases c0 : c = 0
        · have k3 : gI σ 118 x.toNat = 3 := q4.resolve_left (fun z => z c0)
          simp only [M502, e502_0, e502_5, Option.getD_some, Option.bind_some, Option.toList_some, Option.toList_none, List.cons_append, List.nil_append, and_self, and_true, true_and, false_and, and_false, ite_self, not_true_eq_false, not_false_eq_true, reduceIte, Nat.reduceEqDiff, ab_I, ab_L, ab_R, ao_I, ao_L, ao_R, gL_sL, gI_sI, gR_sR, gI_sL, gI_sR, gL_sI, gL_sR, gR_sI, gR_sL, g_112, g_113, g_114, g_115, g_116, g_117, g_118, g_119, g_121, g_122, hx.1, hx.2, T439 hn.1 hn.2, b2_0', b2_n', k, c0, k3]
        · simp only [M502, e502_0, e502_5, Option.getD_some, Option.bind_some, Option.toList_some, Option.toList_none, List.cons_append, List.nil_append, and_self, and_true, true_and, false_and, and_false, ite_self, not_true_eq_false, not_false_eq_true, reduceIte, Nat.reduceEqDiff, ab_I, ab_L, ab_R, ao_I, ao_L, ao_R, gL_sL, gI_sI, gR_sR, gI_sL, gI_sR, gL_sI, gL_sR, gR_sI, gR_sL, T439 hn.1 hn.2, b2_0', b2_n', k, c0]
      rw [s143]
      simp only [e502_143, e502_148, Option.getD_some, Option.bind_some, Option.toList_some, Option.toList_none, List.cons_append, List.nil_append, and_self, and_true, true_and, false_and, and_false, ite_self, not_true_eq_false, not_false_eq_true, reduceIte, Nat.reduceEqDiff, ab_I, ab_L, ab_R, ao_I, ao_L, ao_R, gL_sL, gI_sI, gR_sR, gI_sL, gI_sR, gL_sI, gL_sR, gR_sI, gR_sL, T473]
      exact okc_s (by rw [if_neg (by decide)]; exact sqc_r _)
    · have c0 : c = 0 := by
        refine Classical.byContradiction fun z => q4 (Or.inl z)
      have k3 : ¬ gI σ 118 x.toNat = 3 := fun z => q4 (Or.inr z)
      have b1 : inB 32661 := by decide
      have b2' : inB 32662 := by decide
      have b3 : inB 32658 := by decide
      have n1 : ¬ n.toNat = (32661 : Int).toNat := by have := hn.1; omega
      have z1 : ¬ (32661 : Int).toNat = (32662 : Int).toNat := by decide
      have z2 : ¬ (32661 : Int).toNat = (32658 : Int).toNat := by decide
      have z3 : ¬ (32658 : Int).toNat = d.toNat := by have := hd.1; omega
      generalize hσ : wrV (wrV (wrV σ (32661 : Int).toNat (aV σ x.toNat)) (32662 : Int).toNat (aV σ n.toNat)) (32658 : Int).toNat (numV (tdN (addN (vn (aV σ x.toNat)) (vn (aV σ n.toNat))))) = σ3
      have s178 : MM 502 [mR (some 80), mI d, mI x, mI n, mI c] σ = RR (lkB tb502) (B502_178, [some (mR (some 80)), some (mI d), some (mI x), some (mI n), some (mI c), none, none, none, none, none], [], σ3) := by
        simp only [M502, e502_0, e502_5, Option.getD_some, Option.bind_some, Option.toList_some, Option.toList_none, List.cons_append, List.nil_append, and_self, and_true, true_and, false_and, and_false, ite_self, not_true_eq_false, not_false_eq_true, reduceIte, Nat.reduceEqDiff, ab_I, ab_L, ab_R, ao_I, ao_L, ao_R, gL_sL, gI_sI, gR_sR, gI_sL, gI_sR, gL_sI, gL_sR, gR_sI, gR_sL, g_112, g_113, g_114, g_115, g_116, g_117, g_118, g_119, g_121, g_122, hx.1, hx.2, T439 hn.1 hn.2, b2_0', b2_n', k, c0, k3]
        rw [T430 hx b1 km]
        simp only [e502_157, Option.getD_some, Option.bind_some, Option.toList_some, Option.toList_none, List.cons_append, List.nil_append, and_self, and_true, true_and, false_and, and_false, ite_self, not_true_eq_false, not_false_eq_true, reduceIte, Nat.reduceEqDiff, ab_I, ab_L, ab_R, ao_I, ao_L, ao_R, gL_sL, gI_sI, gR_sR, gI_sL, gI_sR, gL_sI, gL_sR, gR_sI, gR_sL]
        rw [T430 hn b2' (by rw [aV_ne n1]; exact hk)]
        simp only [e502_165, Option.getD_some, Option.bind_some, Option.toList_some, Option.toList_none, List.cons_append, List.nil_append, and_self, and_true, true_and, false_and, and_false, ite_self, not_true_eq_false, not_false_eq_true, reduceIte, Nat.reduceEqDiff, ab_I, ab_L, ab_R, ao_I, ao_L, ao_R, gL_sL, gI_sI, gR_sR, gI_sL, gI_sR, gL_sI, gL_sR, gR_sI, gR_sL, T447 b3 b1 b2', aV_same, aV_ne n1, aV_ne z1]
        rw [← hσ]
      have g0 : sqc σ3 σ := by
        rw [← hσ]
        exact sqc_t (sqc_w (by decide)) (sqc_t (sqc_w (by decide)) (sqc_w (by decide)))
      have vZ : aV σ3 (32658 : Int).toNat = numV (tdN (addN (vn (aV σ x.toNat)) (vn (aV σ n.toNat)))) := by rw [← hσ, aV_same]
      have vX : aV σ3 (32661 : Int).toNat = aV σ x.toNat := by rw [← hσ, aV_ne z2, aV_ne z1, aV_same]
      have f0 : gI σ3 80 90 = 0 := (sqc_I g0 (by omega) (by omega)).trans h0
      have t0 : gI σ3 80 85 = gI σ 80 85 := sqc_I g0 (by omega) (by omega)
      have eB : gL σ3 115 (32658 : Int).toNat = jB (tdN (addN (vn (aV σ x.toNat)) (vn (aV σ n.toNat)))) := by
        rw [q115, vZ]
        rfl
      have i6 : iL 65535 = 65535#64 := by decide
      rw [s178]
      by_cases q5 : 65535#64 < jB (tdN (addN (vn (aV σ x.toNat)) (vn (aV σ n.toNat))))
      · have un : shfV (aV σ x.toNat) (vn (aV σ n.toNat)) c (gI σ 80 85) = (5, aV σ x.toNat, gI σ 80 85) := by
          unfold shfV
          rw [if_neg kc, if_neg q4, if_pos q5]
        rw [un]
        simp only [e502_178, e502_192, e502_200, Option.getD_some, Option.bind_some, Option.toList_some, Option.toList_none, List.cons_append, List.nil_append, and_self, and_true, true_and, false_and, and_false, ite_self, not_true_eq_false, not_false_eq_true, reduceIte, Nat.reduceEqDiff, ab_I, ab_L, ab_R, ao_I, ao_L, ao_R, gL_sL, gI_sI, gR_sR, gI_sL, gI_sR, gL_sI, gL_sR, gR_sI, gR_sL, g_112, g_113, g_114, g_115, g_116, g_117, g_118, g_119, g_121, g_122, Int.reduceLT, Int.reduceLE, eB, i6, T389, b2_0', q5, T473]
        refine okc_s ?_
        rw [if_neg (by decide)]
        exact sqc_flt g0
      · have kx : vk (aV σ3 (32661 : Int).toNat) = vk (aV σ x.toNat) := by rw [vX]
        have s209 : RR (lkB tb502) (B502_178, [some (mR (some 80)), some (mI d), some (mI x), some (mI n), some (mI c), none, none, none, none, none], [], σ3) = RR (lkB tb502) (B502_293, [some (mR (some 80)), some (mI d), some (mI x), some (mI n), some (mI c), none, none, none, none, none], [], wrV σ3 d.toNat (vN (aV σ x.toNat) (tdN (addN (vn (aV σ x.toNat)) (vn (aV σ n.toNat)))))) := by
          simp only [e502_178, e502_192, Option.getD_some, Option.bind_some, Option.toList_some, Option.toList_none, List.cons_append, List.nil_append, and_self, and_true, true_and, false_and, and_false, ite_self, not_true_eq_false, not_false_eq_true, reduceIte, Nat.reduceEqDiff, ab_I, ab_L, ab_R, ao_I, ao_L, ao_R, gL_sL, gI_sI, gR_sR, gI_sL, gI_sR, gL_sI, gL_sR, gR_sI, gR_sL, g_112, g_113, g_114, g_115, g_116, g_117, g_118, g_119, g_121, g_122, Int.reduceLT, Int.reduceLE, eB, i6, T389, b2_0', q5]
          rw [T430 b1 hd (by rw [kx]; exact km), vX]
          simp only [e502_209, e502_251, Option.getD_some, Option.bind_some, Option.toList_some, Option.toList_none, List.cons_append, List.nil_append, and_self, and_true, true_and, false_and, and_false, ite_self, not_true_eq_false, not_false_eq_true, reduceIte, Nat.reduceEqDiff, ab_I, ab_L, ab_R, ao_I, ao_L, ao_R, gL_sL, gI_sI, gR_sR, gI_sL, gI_sR, gL_sI, gL_sR, gR_sI, gR_sL, g_112, g_113, g_114, g_115, g_116, g_117, g_118, g_119, g_121, g_122, Int.reduceLT, Int.reduceLE, hd.1, hd.2, gL_wrV_s z3, z3]
          have y : ∀ k', gL (wrV σ3 d.toNat (aV σ x.toNat)) k' (32658 : Int).toNat = gL σ3 k' (32658 : Int).toNat := fun k' => gL_wrV_s z3
          simp only [y, q112, q113, q114, q115, q116, q117, vZ]
          refine congrArg (fun z => RR (lkB tb502) (B502_293, [some (mR (some 80)), some (mI d), some (mI x), some (mI n), some (mI c), none, none, none, none, none], [], z)) ?_
          have w : wrV σ3 d.toNat (vN (aV σ x.toNat) (tdN (addN (vn (aV σ x.toNat)) (vn (aV σ n.toNat))))) = wN (wrV σ3 d.toNat (aV σ x.toNat)) d.toNat (tdN (addN (vn (aV σ x.toNat)) (vn (aV σ n.toNat)))) := by rw [wN_V, aV_same, wrV_same]
          rw [w]
          rfl
        rw [s209]
        have gk : gI (wrV σ3 d.toNat (vN (aV σ x.toNat) (tdN (addN (vn (aV σ x.toNat)) (vn (aV σ n.toNat)))))) 118 d.toNat = vk (aV σ x.toNat) := by rw [q118, aV_same]
        by_cases q7 : vk (aV σ x.toNat) = 7
        · have un : shfV (aV σ x.toNat) (vn (aV σ n.toNat)) c (gI σ 80 85) = (0, (vk (aV σ x.toNat), tdN (addN (vn (aV σ x.toNat)) (vn (aV σ n.toNat))), vo (aV σ x.toNat), vw (aV σ x.toNat), 0, gI σ 80 85 + 1), gI σ 80 85 + 1) := by
            unfold shfV
            rw [if_neg kc, if_neg q4, if_neg q5, if_pos q7]
          rw [un]
          have gt : w32 (gI (wrV σ3 d.toNat (vN (aV σ x.toNat) (tdN (addN (vn (aV σ x.toNat)) (vn (aV σ n.toNat)))))) 80 85 + 1) = gI σ 80 85 + 1 := by
            rw [gW80, t0]
            exact w32_i (by omega) (by omega)
          simp only [e502_293, Option.getD_some, Option.bind_some, Option.toList_some, Option.toList_none, List.cons_append, List.nil_append, and_self, and_true, true_and, false_and, and_false, ite_self, not_true_eq_false, not_false_eq_true, reduceIte, Nat.reduceEqDiff, ab_I, ab_L, ab_R, ao_I, ao_L, ao_R, gL_sL, gI_sI, gR_sR, gI_sL, gI_sR, gL_sI, gL_sR, gR_sI, gR_sL, g_112, g_113, g_114, g_115, g_116, g_117, g_118, g_119, g_121, g_122, hd.1, hd.2, gk, q7, gt]
          refine okc_s ?_
          try rw [if_pos rfl]
          simp only [wrV_sI (show ¬ (118 ≤ 80 ∧ 80 ≤ 122) by decide), p121, p122, aV_same, wrV_same]
          have e7 : vR (vT (vN (aV σ x.toNat) (tdN (addN (vn (aV σ x.toNat)) (vn (aV σ n.toNat))))) (gI σ 80 85 + 1)) 0 = (7, tdN (addN (vn (aV σ x.toNat)) (vn (aV σ n.toNat))), vo (aV σ x.toNat), vw (aV σ x.toNat), 0, gI σ 80 85 + 1) := by
            show (vk (aV σ x.toNat), _) = _
            rw [q7]
          rw [e7]
          exact sqc_wV (sqc_sI g0)
        · have un : shfV (aV σ x.toNat) (vn (aV σ n.toNat)) c (gI σ 80 85) = (0, (vk (aV σ x.toNat), tdN (addN (vn (aV σ x.toNat)) (vn (aV σ n.toNat))), vo (aV σ x.toNat), vw (aV σ x.toNat), vr (aV σ x.toNat), vt (aV σ x.toNat)), gI σ 80 85) := by
            unfold shfV
            rw [if_neg kc, if_neg q4, if_neg q5, if_neg q7]
          rw [un]
          simp only [e502_293, Option.getD_some, Option.bind_some, Option.toList_some, Option.toList_none, List.cons_append, List.nil_append, and_self, and_true, true_and, false_and, and_false, ite_self, not_true_eq_false, not_false_eq_true, reduceIte, Nat.reduceEqDiff, ab_I, ab_L, ab_R, ao_I, ao_L, ao_R, gL_sL, gI_sI, gR_sR, gI_sL, gI_sR, gL_sI, gL_sR, gR_sI, gR_sL, g_112, g_113, g_114, g_115, g_116, g_117, g_118, g_119, g_121, g_122, hd.1, hd.2, gk, q7]
          refine okc_s ?_
          try rw [if_pos rfl]
          rw [e85]
          exact sqc_wV g0
