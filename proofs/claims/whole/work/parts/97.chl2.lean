/-! ===== the class's helpers: what the state is behind one ===== -/
section CHL2
variable {τ σ ρ : MS} {k j : Nat} {E : EV} {w : B64} {S : ST} {t n h : Int}
theorem iL_tn (x : B64) : iL ((x.toNat : Nat) : Int) = x := by
  unfold iL
  rw [BitVec.ofInt_natCast, BitVec.ofNat_toNat, BitVec.setWidth_eq]
theorem iL_ti (x : B64) : iL x.toInt = x := by
  unfold iL
  exact BitVec.ofInt_toInt
theorem wide8 : wideN 8 = anyN := rfl
def ansJ (S : ST) (h n t : Int) : JR :=
  if h = 1 then (0, some (n, wV (unsA S) 0 (mkV 6 (vw (rgV S 1)) (t + 1))), none, t + 1)
  else if h = 131 then (if (sH S).length = 64 then (12, none, none, t) else (0, some (n, ((wV (unsA S) 0 (mkV 10 ((jV (vn (rgV S 2))).toInt) (t + 1))).1, (wV (unsA S) 0 (mkV 10 ((jV (vn (rgV S 2))).toInt) (t + 1))).2.1, sB S, sH S ++ [t + 1])), none, t + 1))
  else (0, some (n, wV (unsA (hlpS S h)) 0 (numV (if h = 7 then wideN 4 else anyN))), none, t)
/-- what a helper's arguments are known to be -/
def argJ (E : EV) (S : ST) (h : Int) : Prop := (h = 1 → vk (rgV S 1) = 4) ∧ (h = 26 → vk (rgV S 3) = 3 ∧ room E (rgV S 3) 0 (jB (vn (rgV S 4))).toInt ∧ ¬ 128#64 < jB (vn (rgV S 4))) ∧ (h = 131 → vk (rgV S 2) = 1)
theorem T290 (H : SC σ k j E w) (hS : CSt σ k S) (P : PX S E t) (a : vk (rgV S 3) = 3 ∧ room E (rgV S 3) 0 (jB (vn (rgV S 4))).toInt ∧ ¬ 128#64 < jB (vn (rgV S 4))) : okc (MM 290 [mR (some 40)] σ) none (fun τ => CSt τ k (hlpS S 26) ∧ crq τ σ k) := by
  obtain ⟨k3, rm, b128⟩ := a
  have F := PX_F P
  have r3 : 3 ≤ 10 := by decide
  have r4 : 4 ≤ 10 := by decide
  have p3 := pR_lt F r3
  have p4 := pR_lt F r4
  have hv3 := cAt_rg hS F.1 r3
  have hv4 := cAt_rg hS F.1 r4
  have fr := okV_f P.1 r3 k3
  have t12a : MM 212 [mR (some k), mI 3] σ = some (some (mI ((pR S 3 : Nat) : Int)), σ) := T212r H hS P r3
  have t12b : MM 212 [mR (some k), mI 4] σ = some (some (mI ((pR S 4 : Nat) : Int)), σ) := T212r H hS P r4
  have a3 : pR S 4 + 3 < 100000 := by omega
  have a4 : pR S 4 + 4 < 100000 := by omega
  have a7 : pR S 3 + 7 < 100000 := by omega
  have a8 : pR S 3 + 8 < 100000 := by omega
  have g3 := gSt (sc_k H) (show pR S 4 + 3 < 1188 by omega)
  have g4 := gSt (sc_k H) (show pR S 4 + 4 < 1188 by omega)
  have g7 := gSt (sc_k H) (show pR S 3 + 7 < 1188 by omega)
  have g8 := gSt (sc_k H) (show pR S 3 + 8 < 1188 by omega)
  obtain ⟨B, hB⟩ : ∃ B, B = jB (vn (rgV S 4)) := ⟨_, rfl⟩
  obtain ⟨A, hA⟩ : ∃ A, A = jA (vn (rgV S 4)) := ⟨_, rfl⟩
  have u3 : gL σ (k + 1 + 0) (pR S 4 + 3) = A := by rw [rd_3 hv4, hA]
  have u4 : gL σ (k + 1 + 0) (pR S 4 + 4) = B := by rw [rd_4 hv4, hB]
  have e26 : hlpS S 26 = putB S (vw (rgV S 3)).toNat (vo (rgV S 3) + 128).toNat B.toNat (if B < A then B.toNat else A.toNat) := by
    rw [hA, hB]
    exact if_pos rfl
  rw [e26]
  rw [← hB] at rm b128
  have bn : B.toNat ≤ 128 := by
    rw [BitVec.lt_def] at b128
    exact Nat.le_of_not_lt b128
  have bi : B.toInt = (B.toNat : Int) := by
    rw [BitVec.toInt_eq_toNat_cond, if_pos (by omega)]
  have rm3 : -128 ≤ vo (rgV S 3) + 0 ∧ vo (rgV S 3) + 0 ≤ -B.toInt := by
    have rm' := rm
    unfold room at rm'
    rw [if_pos k3] at rm'
    exact rm'
  obtain ⟨f, hf⟩ : ∃ f : Nat, vw (rgV S 3) = (f : Int) := ⟨(vw (rgV S 3)).toNat, by omega⟩
  obtain ⟨b, hb⟩ : ∃ b : Nat, vo (rgV S 3) + 128 = (b : Int) := ⟨(vo (rgV S 3) + 128).toNat, by omega⟩
  obtain ⟨c, hc⟩ : ∃ c : Nat, c = (if B < A then B.toNat else A.toNat) := ⟨_, rfl⟩
  have cl : c ≤ B.toNat := by
    rw [hc]
    split
    · exact Nat.le_refl _
    · rename_i z
      rw [BitVec.lt_def] at z
      omega
  have ic : (if B < A then B else A) = iL (c : Int) := by
    rw [hc]
    split
    · exact (iL_tn B).symm
    · exact (iL_tn A).symm
  have iB : iL ((B.toNat : Nat) : Int) = B := iL_tn B
  obtain ⟨τ, t27, c27, q27⟩ := T227 (f := f) (b := b) (n := B.toNat) (c := c) (a := vo (rgV S 3)) (sc_k H) hS P.2.1 (fun i hi => (okW_S P.1 P.2.1 P.2.2.1 P.2.2.2 hi).1) F.2 (by omega) hb (by omega) cl
  rw [iB] at t27
  have u8 : gL σ (k + 1 + 0) (pR S 3 + 8) = iL (f : Int) := by rw [rd_8 hv3, hf]
  have u7 := rd_7 hv3
  rw [← hc, hf, hb, Int.toNat_natCast, Int.toNat_natCast]
  refine okc_o (τ := τ) ?_ ⟨c27, q27⟩
  have s58 : MM 290 [mR (some 40)] σ = RR (lkB tb290) (B290_58, [some (mR (some 40)), some (mI ((pR S 3 : Nat) : Int)), some (mI ((pR S 4 : Nat) : Int)), some (mL A), none, some (mL B), none, none, none], [mL (iL (c : Int))], σ) := by
    rw [← ic]
    by_cases z : B < A
    · rw [if_pos z]
      simp only [M290, e290_0, e290_8, e290_17, e290_49, Option.getD_some, Option.bind_some, Option.toList_some, Option.toList_none, List.cons_append, List.nil_append, and_self, and_true, true_and, false_and, and_false, ite_self, not_true_eq_false, not_false_eq_true, reduceIte, Nat.reduceEqDiff, ab_I, ab_L, ab_R, ao_I, ao_L, ao_R, gL_sL, gI_sI, gR_sR, gI_sL, gI_sR, gL_sI, gL_sR, gR_sI, gR_sL, sc_h H, sc_ao H, t12a, t12b, wp3 a3, g3, wp4 a4, g4, Int.toNat_natCast, u3, u4, T17, b2_0', eq_true z]
    · rw [if_neg z]
      simp only [M290, e290_0, e290_8, e290_17, e290_49, Option.getD_some, Option.bind_some, Option.toList_some, Option.toList_none, List.cons_append, List.nil_append, and_self, and_true, true_and, false_and, and_false, ite_self, not_true_eq_false, not_false_eq_true, reduceIte, Nat.reduceEqDiff, ab_I, ab_L, ab_R, ao_I, ao_L, ao_R, gL_sL, gI_sI, gR_sR, gI_sL, gI_sR, gL_sI, gL_sR, gR_sI, gR_sL, sc_h H, sc_ao H, t12a, t12b, wp3 a3, g3, wp4 a4, g4, Int.toNat_natCast, u3, u4, T17, b2_0', eq_false z]
  rw [s58]
  simp only [e290_58, e290_95, Option.getD_some, Option.bind_some, Option.toList_some, Option.toList_none, List.cons_append, List.nil_append, and_self, and_true, true_and, false_and, and_false, ite_self, not_true_eq_false, not_false_eq_true, reduceIte, Nat.reduceEqDiff, ab_I, ab_L, ab_R, ao_I, ao_L, ao_R, gL_sL, gI_sI, gR_sR, gI_sL, gI_sR, gL_sI, gL_sR, gR_sI, gR_sL, sc_h H, sc_ao H, wp7 a7, g7, wp8 a8, g8, Int.toNat_natCast, u7, u8, t27]
theorem L289a (H : SC σ k j E w) (hS : CSt σ k S) (P : PX S E t) (a : argJ E S h) : ∃ τ tg, MM 289 [mR (some 40), mI h] σ = RR (lkB tb289) (B289_104, [some (mR (some 40)), some (mI h), some (mI ((pR S 1 : Nat) : Int)), some (mI ((pR S 2 : Nat) : Int)), some (mI tg), some (mI (vw (rgV S 1) % 8)), some (mL (gL σ (k + 1 + 0) (pR S 2 + 1))), none, none], [], τ) ∧ CSt τ k (hlpS S h) ∧ csq τ σ k := by
  have F := PX_F P
  have r1 : 1 ≤ 10 := by decide
  have r2 : 2 ≤ 10 := by decide
  have p1 := pR_lt F r1
  have p2 := pR_lt F r2
  have hv1 := cAt_rg hS F.1 r1
  have wv := (okW_r P r1).2.1
  have t12a : MM 212 [mR (some k), mI 1] σ = some (some (mI ((pR S 1 : Nat) : Int)), σ) := T212r H hS P r1
  have t12b : MM 212 [mR (some k), mI 2] σ = some (some (mI ((pR S 2 : Nat) : Int)), σ) := T212r H hS P r2
  have a10 : pR S 1 + 10 < 100000 := by omega
  have a1 : pR S 2 + 1 < 100000 := by omega
  have g10 := gSt (sc_k H) (show pR S 1 + 10 < 1188 by omega)
  have g1 := gSt (sc_k H) (show pR S 2 + 1 < 1188 by omega)
  have lt : lI (iL (vt (rgV S 1))) = vt (rgV S 1) := lIi (by omega) (by omega)
  have t85 := T285 H hS P
  have hX := okX_of P.1 P.2.1 P.2.2.1 P.2.2.2
  have s37 : MM 289 [mR (some 40), mI h] σ = RR (lkB tb289) (B289_37, [some (mR (some 40)), some (mI h), some (mI ((pR S 1 : Nat) : Int)), some (mI ((pR S 2 : Nat) : Int)), some (mI (vt (rgV S 1))), none, none, none, none], [mI (vw (rgV S 1) % 8)], σ) := by
    simp only [M289, e289_0, e289_8, e289_17, Option.getD_some, Option.bind_some, Option.toList_some, Option.toList_none, List.cons_append, List.nil_append, and_self, and_true, true_and, false_and, and_false, ite_self, not_true_eq_false, not_false_eq_true, reduceIte, Nat.reduceEqDiff, ab_I, ab_L, ab_R, ao_I, ao_L, ao_R, gL_sL, gI_sI, gR_sR, gI_sL, gI_sR, gL_sI, gL_sR, gR_sI, gR_sL, sc_h H, sc_ao H, t12a, t12b, wp10 a10, g10, Int.toNat_natCast, rd_10 hv1, lt, t85]
  rw [s37]
  by_cases c26 : h = 26
  · obtain ⟨τ, t90, c90, q90⟩ := T290 H hS P (a.2.1 c26)
    rw [c26]
    refine ⟨τ, vt (rgV S 1), ?_, c90, csq_c q90⟩
    simp only [e289_37, e289_62, Option.getD_some, Option.bind_some, Option.toList_some, Option.toList_none, List.cons_append, List.nil_append, and_self, and_true, true_and, false_and, and_false, ite_self, not_true_eq_false, not_false_eq_true, reduceIte, Nat.reduceEqDiff, ab_I, ab_L, ab_R, ao_I, ao_L, ao_R, gL_sL, gI_sI, gR_sR, gI_sL, gI_sR, gL_sI, gL_sR, gR_sI, gR_sL, sc_h H, sc_ao H, wp1 a1, g1, Int.toNat_natCast, Int.reduceEq, t90]
  · by_cases c44 : h = 44
    · obtain ⟨τ, t32, c32, q32⟩ := T232 (sc_k H) hS F.2 hX
      rw [c44]
      refine ⟨τ, vt (rgV S 1), ?_, c32, csq_c q32⟩
      simp only [e289_37, e289_78, Option.getD_some, Option.bind_some, Option.toList_some, Option.toList_none, List.cons_append, List.nil_append, and_self, and_true, true_and, false_and, and_false, ite_self, not_true_eq_false, not_false_eq_true, reduceIte, Nat.reduceEqDiff, ab_I, ab_L, ab_R, ao_I, ao_L, ao_R, gL_sL, gI_sI, gR_sR, gI_sL, gI_sR, gL_sI, gL_sR, gR_sI, gR_sL, sc_h H, sc_ao H, wp1 a1, g1, Int.toNat_natCast, Int.reduceEq, t32]
    · by_cases c3 : h = 132 ∨ h = 133
      · obtain ⟨τ, t33, c33, q33⟩ := T233 (t := vt (rgV S 1)) (sc_k H) hS F.2 hX P.1.2.2.2.2.2.1 (by omega)
        have e : hlpS S h = allV (relH S (vt (rgV S 1))) (recV (vt (rgV S 1))) := by
          unfold hlpS
          rw [if_neg c26, if_neg c44, if_pos c3]
        rw [e]
        refine ⟨τ, vt (rgV S 1), ?_, c33, q33⟩
        rcases c3 with c | c
        · rw [c]
          simp only [e289_37, e289_95, Option.getD_some, Option.bind_some, Option.toList_some, Option.toList_none, List.cons_append, List.nil_append, and_self, and_true, true_and, false_and, and_false, ite_self, not_true_eq_false, not_false_eq_true, reduceIte, Nat.reduceEqDiff, ab_I, ab_L, ab_R, ao_I, ao_L, ao_R, gL_sL, gI_sI, gR_sR, gI_sL, gI_sR, gL_sI, gL_sR, gR_sI, gR_sL, sc_h H, sc_ao H, wp1 a1, g1, Int.toNat_natCast, Int.reduceEq, t33]
        · rw [c]
          simp only [e289_37, e289_95, Option.getD_some, Option.bind_some, Option.toList_some, Option.toList_none, List.cons_append, List.nil_append, and_self, and_true, true_and, false_and, and_false, ite_self, not_true_eq_false, not_false_eq_true, reduceIte, Nat.reduceEqDiff, ab_I, ab_L, ab_R, ao_I, ao_L, ao_R, gL_sL, gI_sI, gR_sR, gI_sL, gI_sR, gL_sI, gL_sR, gR_sI, gR_sL, sc_h H, sc_ao H, wp1 a1, g1, Int.toNat_natCast, Int.reduceEq, t33]
      · have e : hlpS S h = S := by
          unfold hlpS
          rw [if_neg c26, if_neg c44, if_neg c3]
        have n2 : ¬ h = 132 := fun z => c3 (Or.inl z)
        have n3 : ¬ h = 133 := fun z => c3 (Or.inr z)
        rw [e]
        refine ⟨σ, vt (rgV S 1), ?_, hS, csq_r σ k⟩
        simp only [e289_37, Option.getD_some, Option.bind_some, Option.toList_some, Option.toList_none, List.cons_append, List.nil_append, and_self, and_true, true_and, false_and, and_false, ite_self, not_true_eq_false, not_false_eq_true, reduceIte, Nat.reduceEqDiff, ab_I, ab_L, ab_R, ao_I, ao_L, ao_R, gL_sL, gI_sI, gR_sR, gI_sL, gI_sR, gL_sI, gL_sR, gR_sI, gR_sL, sc_h H, sc_ao H, wp1 a1, g1, Int.toNat_natCast, eq_false c26, eq_false c44, eq_false n2, eq_false n3]
theorem sF_hlp : sF (hlpS S h) = sF S := by
  unfold hlpS
  split
  · rfl
  · split
    · rfl
    · split <;> rfl
theorem T289 (H : SC σ k j E w) (hS : CSt σ k S) (P : PX S E t) (ht : gI σ 40 8 = t) (h4 : gI σ 40 4 = n) (h3 : gI σ 40 3 = 0) (a : argJ E S h) : okc (MM 289 [mR (some 40), mI h] σ) (some (mI (ansJ S h n t).1)) (fun τ => spj σ τ k j (ansJ S h n t)) := by
  have F := PX_F P
  have sc := sc_c H
  obtain ⟨τ0, tg, s104, c0, q0⟩ := L289a H hS P a
  rw [s104]
  have F0 : 1 ≤ sF (hlpS S h) ∧ sF (hlpS S h) ≤ 4 := by rw [sF_hlp]; exact F
  have H0 := SC_q (sfq_s (j := j) q0) H
  obtain ⟨τ1, t21, c1, q1⟩ := T221 (sc_k H0) F0 c0
  have H1 := SC_q (sfq_c (j := j) q1) H0
  have Q1 : sfq τ1 σ k j := sfq_t (sfq_c q1) (sfq_s q0)
  have f1 : gI τ1 k 3 = (sF S : Int) := c1.1.1.trans (by show ((sF (hlpS S h) : Nat) : Int) = _; rw [sF_hlp])
  have t12 : MM 212 [mR (some k), mI 0] τ1 = some (some (mI ((pR S 0 : Nat) : Int)), τ1) := T212 (r := 0) (sc_k H1) f1 F (by decide)
  have i40 : ∀ s, gI τ1 40 s = gI σ 40 s := fun s => (q1.1 _ _).trans (q0.1 _ _ (by omega) (by omega) (by omega))
  have u8 : gI τ1 40 8 = t := (i40 8).trans ht
  have u4 : gI τ1 40 4 = n := (i40 4).trans h4
  have u3 : gI τ1 40 3 = 0 := (i40 3).trans h3
  have p0 := pR_lt F (show 0 ≤ 10 by decide)
  have tl := P.2.2.2
  have t0 : 0 ≤ t := P.1.2.2.2.2.2.2
  have wt : w32 (gI τ1 40 8 + 1) = t + 1 := by rw [u8]; exact w32_i (by omega) (by omega)
  have s119 : RR (lkB tb289) (B289_104, [some (mR (some 40)), some (mI h), some (mI ((pR S 1 : Nat) : Int)), some (mI ((pR S 2 : Nat) : Int)), some (mI tg), some (mI (vw (rgV S 1) % 8)), some (mL (gL σ (k + 1 + 0) (pR S 2 + 1))), none, none], [], τ0) = RR (lkB tb289) (B289_119, [some (mR (some 40)), some (mI h), some (mI ((pR S 1 : Nat) : Int)), some (mI ((pR S 2 : Nat) : Int)), some (mI tg), some (mI (vw (rgV S 1) % 8)), some (mL (gL σ (k + 1 + 0) (pR S 2 + 1))), none, none], [mI ((pR S 0 : Nat) : Int)], τ1) := by
    simp only [e289_104, e289_111, Option.getD_some, Option.bind_some, Option.toList_some, Option.toList_none, List.cons_append, List.nil_append, and_self, and_true, true_and, false_and, and_false, ite_self, not_true_eq_false, not_false_eq_true, reduceIte, Nat.reduceEqDiff, ab_I, ab_L, ab_R, ao_I, ao_L, ao_R, gL_sL, gI_sI, gR_sR, gI_sL, gI_sR, gL_sI, gL_sR, gR_sI, gR_sL, sc_h H0, sc_ao H0, t21, sc_h H1, sc_ao H1, t12]
  rw [s119]
  clear s104 s119
  have Fu : 1 ≤ sF (unsA (hlpS S h)) ∧ sF (unsA (hlpS S h)) ≤ 4 := F0
  have eR : pR (unsA (hlpS S h)) 0 = pR S 0 := by
    show 297 * (sF (hlpS S h) - 1) + 11 * 0 = 297 * (sF S - 1) + 11 * 0
    rw [sF_hlp]
  obtain ⟨τ2, hτ2⟩ : ∃ τ2, τ2 = sI τ1 40 8 (t + 1) := ⟨_, rfl⟩
  have q2 : sfq τ2 τ1 k j := by rw [hτ2]; exact sfq_i (by omega)
  have H2 := SC_q q2 H1
  have C2 : CSt τ2 k (unsA (hlpS S h)) := by rw [hτ2]; exact CSt_i sc c1
  have v8 : gI τ2 40 8 = t + 1 := by rw [hτ2, gI_sI, if_pos ⟨rfl, rfl⟩]
  have v4 : gI τ2 40 4 = n := by rw [hτ2, gI_sI, if_neg (by omega)]; exact u4
  have v3 : gI τ2 40 3 = 0 := by rw [hτ2, gI_sI, if_neg (by omega)]; exact u3
  have t52 : MM 252 [mR (some 40)] τ1 = some (some (mI (t + 1)), τ2) := by rw [T252, wt, hτ2]
  unfold ansJ
  by_cases h1 : h = 1
  · rw [if_pos h1]
    have hS1 : hlpS S h = S := by rw [h1]; rfl
    rw [hS1] at C2 Fu
    have o := (rV_ok P.1 (show 1 ≤ 10 by decide)).2.2.2.1 (a.1 h1)
    have m8 : vw (rgV S 1) % 8 = vw (rgV S 1) := by omega
    obtain ⟨τ3, t17, q3⟩ := T217 (kn := 6) (w := vw (rgV S 1)) (t := t + 1) (sc_k H2) p0
    have C3 : CSt τ3 k (wV (unsA S) 0 (mkV 6 (vw (rgV S 1)) (t + 1))) := CSt_w (r := 0) Fu C2 (by decide) q3
    refine okc_o (τ := τ3) ?_ ⟨sfq_t (sfq_v q3) (sfq_t q2 Q1), fun _ => ⟨(q3.1 _ _).trans v8, C3, (q3.1 _ _).trans v4, (q3.1 _ _).trans v3⟩⟩
    simp only [e289_119, e289_141, e289_144, e289_224, Option.getD_some, Option.bind_some, Option.toList_some, Option.toList_none, List.cons_append, List.nil_append, and_self, and_true, true_and, false_and, and_false, ite_self, not_true_eq_false, not_false_eq_true, reduceIte, Nat.reduceEqDiff, ab_I, ab_L, ab_R, ao_I, ao_L, ao_R, gL_sL, gI_sI, gR_sR, gI_sL, gI_sR, gL_sI, gL_sR, gR_sI, gR_sL, eq_true h1, t52, m8, sc_h H1, sc_ao H2, t17]
  · rw [if_neg h1]
    by_cases h131 : h = 131
    · rw [if_pos h131]
      have hS1 : hlpS S h = S := by rw [h131]; rfl
      rw [hS1] at C2 Fu
      have k2 := a.2.2 h131
      have x6 : gL σ (k + 1 + 0) (pR S 2 + 1) = iL (jV (vn (rgV S 2))).toInt := by
        rw [rd_1 (cAt_rg hS F.1 (show 2 ≤ 10 by decide)), if_neg (by omega), iL_ti]
      rw [x6]
      obtain ⟨τ3, t17, q3⟩ := T217 (kn := 10) (w := (jV (vn (rgV S 2))).toInt) (t := t + 1) (sc_k H2) p0
      have C3 : CSt τ3 k (wV (unsA S) 0 (mkV 10 ((jV (vn (rgV S 2))).toInt) (t + 1))) := CSt_w (r := 0) Fu C2 (by decide) q3
      have H3 := SC_q (sfq_v (j := j) q3) H2
      have y8 : gI τ3 40 8 = t + 1 := (q3.1 _ _).trans v8
      have y4 : gI τ3 40 4 = n := (q3.1 _ _).trans v4
      have y3 : gI τ3 40 3 = 0 := (q3.1 _ _).trans v3
      have s171 : RR (lkB tb289) (B289_119, [some (mR (some 40)), some (mI h), some (mI ((pR S 1 : Nat) : Int)), some (mI ((pR S 2 : Nat) : Int)), some (mI tg), some (mI (vw (rgV S 1) % 8)), some (mL (iL (jV (vn (rgV S 2))).toInt)), none, none], [mI ((pR S 0 : Nat) : Int)], τ1) = RR (lkB tb289) (B289_171, [some (mR (some 40)), some (mI h), some (mI ((pR S 1 : Nat) : Int)), some (mI ((pR S 2 : Nat) : Int)), some (mI tg), some (mI (vw (rgV S 1) % 8)), some (mL (iL (jV (vn (rgV S 2))).toInt)), none, some (mI ((pR S 0 : Nat) : Int))], [], τ3) := by
        rw [h131]
        simp only [e289_119, e289_168, Option.getD_some, Option.bind_some, Option.toList_some, Option.toList_none, List.cons_append, List.nil_append, and_self, and_true, true_and, false_and, and_false, ite_self, not_true_eq_false, not_false_eq_true, reduceIte, Nat.reduceEqDiff, ab_I, ab_L, ab_R, ao_I, ao_L, ao_R, gL_sL, gI_sI, gR_sR, gI_sL, gI_sR, gL_sI, gL_sR, gR_sI, gR_sL, Int.reduceEq, t52, sc_h H1, sc_ao H2, t17]
      rw [s171]
      by_cases full : (sH S).length = 64
      · rw [if_pos full]
        have t28 := T228n (t := t + 1) (sc_k H3) C3 full
        refine okc_o (τ := τ3) ?_ (spj_f (by decide) (sfq_t (sfq_v q3) (sfq_t q2 Q1)))
        simp only [e289_171, e289_182, Option.getD_some, Option.bind_some, Option.toList_some, Option.toList_none, List.cons_append, List.nil_append, and_self, and_true, true_and, false_and, and_false, ite_self, not_true_eq_false, not_false_eq_true, reduceIte, Nat.reduceEqDiff, ab_I, ab_L, ab_R, ao_I, ao_L, ao_R, gL_sL, gI_sI, gR_sR, gI_sL, gI_sR, gL_sI, gL_sR, gR_sI, gR_sL, sc_h H3, sc_ao H3, y8, t28]
      · rw [if_neg full]
        have hl := P.1.2.2.2.2.2.1
        obtain ⟨τ4, t28, c4, q4⟩ := T228 (t := t + 1) (sc_k H3) C3 (show (sH S).length < 64 by omega)
        have z : ∀ s, gI τ4 40 s = gI τ3 40 s := fun s => (csq_h q4).1 _ _ (by omega) (by omega) (by omega)
        refine okc_o (τ := τ4) ?_ ⟨sfq_t (sfq_s (csq_h q4)) (sfq_t (sfq_v q3) (sfq_t q2 Q1)), fun _ => ⟨(z 8).trans y8, c4, (z 4).trans y4, (z 3).trans y3⟩⟩
        simp only [e289_171, e289_182, Option.getD_some, Option.bind_some, Option.toList_some, Option.toList_none, List.cons_append, List.nil_append, and_self, and_true, true_and, false_and, and_false, ite_self, not_true_eq_false, not_false_eq_true, reduceIte, Nat.reduceEqDiff, ab_I, ab_L, ab_R, ao_I, ao_L, ao_R, gL_sL, gI_sI, gR_sR, gI_sL, gI_sR, gL_sI, gL_sR, gR_sI, gR_sL, sc_h H3, sc_ao H3, y8, t28, oneI]
    · rw [if_neg h131]
      have fin : ∀ m : Nat, m ≤ 8 → (∀ o : Option Rs, RR (lkB tb289) (B289_208, [some (mR (some 40)), some (mI h), some (mI ((pR S 1 : Nat) : Int)), some (mI ((pR S 2 : Nat) : Int)), some (mI tg), some (mI (vw (rgV S 1) % 8)), some (mL (gL σ (k + 1 + 0) (pR S 2 + 1))), none, some (mI ((pR S 0 : Nat) : Int))], [mI (m : Int), mR (some 42)], τ1) = o → okc o (some (mI 0)) (fun τ => spj σ τ k j (0, some (n, wV (unsA (hlpS S h)) 0 (numV (wideN m))), none, t))) := by
        intro m hm o ho
        have t63 := T63 (σ := τ1) (k := 42) (n := m) (kc_42 _) hm
        obtain ⟨τ3, h3'⟩ : ∃ τ3, τ3 = wC τ1 42 (wideN m) := ⟨_, rfl⟩
        have q3 : nfq τ3 τ1 := by rw [h3']; exact nfq_w (by omega)
        have r42 : rC τ3 42 = wideN m := by rw [h3', rC_wC, if_pos rfl]
        rw [← h3'] at t63
        have H3 := SC_n q3 H1
        have C3 := CSt_n sc q3 c1
        obtain ⟨τ4, t18, q4⟩ := T218 (j := 42) (sc_k H3) (kc_42 _) (by omega) p0
        rw [r42] at q4
        have C4 : CSt τ4 k (wV (unsA (hlpS S h)) 0 (numV (wideN m))) := CSt_w (r := 0) Fu C3 (by decide) (by show cxV τ4 τ3 k (pR (unsA (hlpS S h)) 0) _; rw [eR]; exact q4)
        refine okc_o (τ := τ4) ?_ ⟨sfq_t (sfq_v q4) (sfq_t (sfq_n q3) Q1), fun _ => ⟨?_, C4, ?_, ?_⟩⟩
        · rw [← ho]
          have a42 : ao τ1 2 (some 42) = True := aoN (kc_42 _)
          simp only [e289_208, e289_211, e289_224, Option.getD_some, Option.bind_some, Option.toList_some, Option.toList_none, List.cons_append, List.nil_append, and_self, and_true, true_and, false_and, and_false, ite_self, not_true_eq_false, not_false_eq_true, reduceIte, Nat.reduceEqDiff, ab_I, ab_L, ab_R, ao_I, ao_L, ao_R, gL_sL, gI_sI, gR_sR, gI_sL, gI_sR, gL_sI, gL_sR, gR_sI, gR_sL, a42, t63, sc_h H3, sc_ao H3, t18]
        · exact ((q4.1 _ _).trans (q3.1 _ _)).trans u8
        · exact ((q4.1 _ _).trans (q3.1 _ _)).trans u4
        · exact ((q4.1 _ _).trans (q3.1 _ _)).trans u3
      by_cases h7 : h = 7
      · rw [if_pos h7]
        refine fin 4 (by decide) _ ?_
        simp only [e289_119, Option.getD_some, Option.bind_some, Option.toList_some, Option.toList_none, List.cons_append, List.nil_append, and_self, and_true, true_and, false_and, and_false, ite_self, not_true_eq_false, not_false_eq_true, reduceIte, Nat.reduceEqDiff, ab_I, ab_L, ab_R, ao_I, ao_L, ao_R, gL_sL, gI_sI, gR_sR, gI_sL, gI_sR, gL_sI, gL_sR, gR_sI, gR_sL, eq_false h1, eq_false h131, eq_true h7]
        rfl
      · rw [if_neg h7, ← wide8]
        refine fin 8 (by decide) _ ?_
        simp only [e289_119, Option.getD_some, Option.bind_some, Option.toList_some, Option.toList_none, List.cons_append, List.nil_append, and_self, and_true, true_and, false_and, and_false, ite_self, not_true_eq_false, not_false_eq_true, reduceIte, Nat.reduceEqDiff, ab_I, ab_L, ab_R, ao_I, ao_L, ao_R, gL_sL, gI_sI, gR_sR, gI_sL, gI_sR, gL_sI, gL_sR, gR_sI, gR_sL, eq_false h1, eq_false h131, eq_false h7]
        rfl
end CHL2
