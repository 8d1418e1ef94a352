/-! ===== the class's runs: exchanges, stores as words ===== -/
section CSWP
variable {σ τ ρ : MS} {c c' : TC WR} {W V : WR} {w w2 x A z : B64} {v : SV} {a r f b k n o s p m d : Nat} {l : List B64} {y g i : Int} {φ : Nat → Nat}
/-- up to the address -/
theorem L195 (hs : fS w ≤ 10) (hd : fD w ≤ 10) : MM 195 [mR (some 71), mL w] σ = RR (lkB tb195) (B195_30, [some (mR (some 71)), some (mL w), none, some (mI (fOp w)), some (mI ((sRr w : Nat) : Int)), some (mI ((bytN w : Nat) : Int)), none, none, none, none, none, none, none], [mI (fO w), mL (gL σ 76 (dR w))], σ) := by
  have fr := fld_rng w
  have eD : fD w = ((dR w : Nat) : Int) := by show fD w = ((fD w).toNat : Int); omega
  have eS : fS w = ((sRr w : Nat) : Int) := by show fS w = ((fS w).toNat : Int); omega
  have bD : 0 ≤ ((dR w : Nat) : Int) ∧ ((dR w : Nat) : Int) < 16 := by
    show 0 ≤ (((fD w).toNat : Nat) : Int) ∧ (((fD w).toNat : Nat) : Int) < 16
    omega
  have t1 : MM 1 [mL w] σ = some (some (mI ((dR w : Nat) : Int)), σ) := by rw [T1, eD]
  have t2 : MM 2 [mL w] σ = some (some (mI ((sRr w : Nat) : Int)), σ) := by rw [T2, eS]
  simp only [M195, e195_0, Option.getD_some, Option.bind_some, Option.toList_some, Option.toList_none, List.cons_append, List.nil_append, and_self, and_true, true_and, false_and, and_false, ite_self, not_true_eq_false, not_false_eq_true, reduceIte, Nat.reduceEqDiff, ab_I, ab_L, ab_R, ao_I, ao_L, ao_R, gL_sL, gI_sI, gR_sR, gI_sL, gI_sR, gL_sI, gL_sR, gR_sI, gR_sL, T0, e195_4, t2, e195_9, T5, e195_15, t1, e195_25, g_76, bD.1, bD.2, Int.toNat_natCast, T3]
/-- a store from a register, as a word -/
theorem T195s (hs : fS w ≤ 10) (hd : fD w ≤ 10) (m96 : fM w = 96) (t : MM 189 [mR (some 71), mL (gL σ 76 (dR w) + iL (fO w)), mL (gL σ 76 (sRr w)), mI ((bytN w : Nat) : Int)] σ = some (none, τ)) : MM 195 [mR (some 71), mL w] σ = some (none, τ) := by
  have fr := fld_rng w
  have bS : 0 ≤ ((sRr w : Nat) : Int) ∧ ((sRr w : Nat) : Int) < 16 := by
    show 0 ≤ (((fS w).toNat : Nat) : Int) ∧ (((fS w).toNat : Nat) : Int) < 16
    omega
  have w224 : iAnd (fOp w) 224 = fM w := m224 w
  rw [L195 hs hd, e195_30, w224, m96]
  simp only [Option.getD_some, Option.bind_some, Option.toList_some, Option.toList_none, List.cons_append, List.nil_append, and_self, and_true, true_and, false_and, and_false, ite_self, not_true_eq_false, not_false_eq_true, reduceIte, Nat.reduceEqDiff, ab_I, ab_L, ab_R, ao_I, ao_L, ao_R, gL_sL, gI_sI, gR_sR, gI_sL, gI_sR, gL_sI, gL_sR, gR_sI, gR_sL, not_true_eq_false, if_false, g_76, bS.1, bS.2, Int.toNat_natCast, t, e195_59]
theorem sw_C (h : RelC σ φ c) (hI : invW (cW c)) (hw : okMem w) (h3 : fL w = 3) (m192 : fM w = 192) (e : swT RB c w = some c') : ∃ τ, MM 195 [mR (some 71), mL w] σ = some (none, τ) ∧ RelC τ φ c' ∧ mvC σ τ ∧ ∀ k s, ¬ k = 27 → gI τ k s = gI σ k s := by
  have hw' := hw
  unfold okMem at hw'
  rw [if_neg (by omega), if_neg (by omega), if_neg (by omega)] at hw'
  obtain ⟨⟨oo, hd⟩, hi⟩ := hw'
  have hs : fS w ≤ 10 := by omega
  have fr := fld_rng w
  have d10 : dR w ≤ 10 := by show (fD w).toNat ≤ 10; omega
  have s10 : sRr w ≤ 10 := by show (fS w).toNat ≤ 10; omega
  have b8 := byt_1 w
  have b48 : bytN w = 4 ∨ bytN w = 8 := by
    have q : fB w = 0 ∨ fB w = 3 := by
      have : fB w = fOp w / 8 % 4 := rfl
      omega
    unfold bytN
    rcases q with q | q <;> rw [q]
    · left; rfl
    · right; rfl
  have hx : (fI w = 0 ∨ fI w = 64 ∨ fI w = 80 ∨ fI w = 160 ∨ fI w = 241) ∨ (fI w = 1 ∨ fI w = 65 ∨ fI w = 81 ∨ fI w = 161 ∨ fI w = 225) := by omega
  obtain ⟨x1, x2⟩ := x240 hx
  have bS : 0 ≤ ((sRr w : Nat) : Int) ∧ ((sRr w : Nat) : Int) < 16 := by
    show 0 ≤ (((fS w).toNat : Nat) : Int) ∧ (((fS w).toNat : Nat) : Int) < 16
    omega
  have w224 : iAnd (fOp w) 224 = fM w := m224 w
  have m96 : ¬ fM w = 96 := by omega
  have fz : ∀ (ρ : MS) (p : Nat) (l : List Int) (k s : Nat), ¬ k = 27 → gI (wzS ρ 27 p l) k s = gI ρ k s := fun ρ p l k s z => by rw [wzS_g, if_neg (fun q => z q.1)]
  unfold swT at e
  by_cases n0 : ¬ (rdR c (sRr w)).1 = 0
  · rw [if_pos n0] at e
    cases e
  · rw [if_neg n0] at e
    have z0 : (rdR c (sRr w)).1 = 0 := Decidable.byContradiction n0
    obtain ⟨sa, _⟩ := rd_C h s10 (by omega)
    have sa : gL σ 76 (sRr w) = (rdR c (sRr w)).2 := sa.trans (enG_z z0)
    cases el : rdL RB c (rdR c (dR w)).1 (offN (rdR c (dR w)).2 (fO w)).toNat (bytN w) with
    | none =>
      rw [el] at e
      cases e
    | some l =>
      rw [el] at e
      dsimp only at e
      obtain ⟨ob, pb, hl⟩ := rdL_C h _ _ _ el
      have o0 := ob 0 (by omega)
      have pb := pb b8.1
      have ea := ea_C (y := fO w) h d10 (by omega) (by omega) (by omega)
      obtain ⟨P, hP⟩ : ∃ P, P = plC φ (rdR c (dR w)).1 + (offN (rdR c (dR w)).2 (fO w)).toNat := ⟨_, rfl⟩
      rw [← hP] at ea pb hl
      have t8 := T188 (σ := σ) pb
      rw [← hl] at t8
      obtain ⟨B, hB⟩ : ∃ B, B = iL (1048576 + (P : Int)) := ⟨_, rfl⟩
      -- up to what stood there
      have s74 : MM 195 [mR (some 71), mL w] σ = RR (lkB tb195) (B195_74, [some (mR (some 71)), some (mL w), none, some (mI (fOp w)), some (mI ((sRr w : Nat) : Int)), some (mI ((bytN w : Nat) : Int)), some (mL B), none, some (mI (fI w)), none, none, none, none], [mL (leN l)], σ) := by
        rw [← hB] at t8 ea
        rw [L195 hs hd, e195_30, w224, if_pos m96, T4, ea]
        simp only [Option.getD_some, Option.bind_some, Option.toList_some, Option.toList_none, List.cons_append, List.nil_append, and_self, and_true, true_and, false_and, and_false, ite_self, not_true_eq_false, not_false_eq_true, reduceIte, Nat.reduceEqDiff, ab_I, ab_L, ab_R, ao_I, ao_L, ao_R, gL_sL, gI_sI, gR_sR, gI_sL, gI_sR, gL_sI, gL_sR, gR_sI, gR_sL, e195_64, t8]
      rw [s74]
      clear s74
      -- what is put there
      have put : ∀ (x : B64) (c1 : TC WR), wrL RB c (rdR c (dR w)).1 (offN (rdR c (dR w)).2 (fO w)).toNat (bysN x (bytN w)) = some c1 → MM 189 [mR (some 71), mL B, mL x, mI ((bytN w : Nat) : Int)] σ = some (none, wzS σ 27 P ((bysN x (bytN w)).map kpW)) ∧ RelC (wzS σ 27 P ((bysN x (bytN w)).map kpW)) φ c1 ∧ cN c1 = cN c := fun x c1 ew => by
        obtain ⟨_, _, rel⟩ := wrL_C _ _ σ c h hI (bys_lt x (bytN w)).2 ew
        rw [← hP] at rel
        rw [hB]
        exact ⟨T189 b8.2 pb, rel, wrL_N _ ew⟩
      have back : ∀ (ρ : MS) (c1 : TC WR) (r : Nat), RelC ρ φ c1 → r < 10 → RelC (sL ρ 76 r (leN l)) φ (wrR c1 r (0, leN l)) := fun ρ c1 r hr r9 => wr_C (v := (0, leN l)) hr r9 enG_0.symm okSV_0 (fun z => absurd z (show ¬ 300 ≤ (0 : Nat) by decide))
      by_cases c241 : fI w = 241
      · rw [if_pos c241] at e
        by_cases q : ¬ (rdR c 0).1 = 0
        · rw [if_pos q] at e
          cases e
        · rw [if_neg q] at e
          have q0 : (rdR c 0).1 = 0 := Decidable.byContradiction q
          obtain ⟨za, _⟩ := rd_C h (r := 0) (by decide) (by omega)
          have za : gL σ 76 0 = (rdR c 0).2 := za.trans (enG_z q0)
          -- the lowest part of r0
          have s109 : RR (lkB tb195) (B195_74, [some (mR (some 71)), some (mL w), none, some (mI (fOp w)), some (mI ((sRr w : Nat) : Int)), some (mI ((bytN w : Nat) : Int)), some (mL B), none, some (mI (fI w)), none, none, none, none], [mL (leN l)], σ) = RR (lkB tb195) (B195_109, [some (mR (some 71)), some (mL w), none, some (mI (fOp w)), some (mI ((sRr w : Nat) : Int)), some (mI ((bytN w : Nat) : Int)), some (mL B), none, some (mI (fI w)), some (mL (leN l)), none, none, none], [mL (lowB (8 * bytN w) (rdR c 0).2)], σ) := by
            have t00 : (0 : Int).toNat = 0 := rfl
            rcases b48 with b4 | b4
            · have e4 : lowB (8 * bytN w) (rdR c 0).2 = (rdR c 0).2 &&& iL 4294967295 := by rw [b4]; rfl
              have n4 : ((bytN w : Nat) : Int) = 4 := by omega
              rw [e4, e195_74, c241]
              simp only [Option.getD_some, Option.bind_some, Option.toList_some, Option.toList_none, List.cons_append, List.nil_append, and_self, and_true, true_and, false_and, and_false, ite_self, not_true_eq_false, not_false_eq_true, reduceIte, Nat.reduceEqDiff, ab_I, ab_L, ab_R, ao_I, ao_L, ao_R, gL_sL, gI_sI, gR_sR, gI_sL, gI_sR, gL_sI, gL_sR, gR_sI, gR_sL, not_true_eq_false, if_false, n4, g_76, Int.reduceLE, Int.reduceLT, t00, za]
            · have e4 : lowB (8 * bytN w) (rdR c 0).2 = (rdR c 0).2 := by rw [b4]; rfl
              have n4 : ¬ ((bytN w : Nat) : Int) = 4 := by omega
              rw [e4, e195_74, c241]
              simp only [Option.getD_some, Option.bind_some, Option.toList_some, Option.toList_none, List.cons_append, List.nil_append, and_self, and_true, true_and, false_and, and_false, ite_self, not_true_eq_false, not_false_eq_true, reduceIte, Nat.reduceEqDiff, ab_I, ab_L, ab_R, ao_I, ao_L, ao_R, gL_sL, gI_sI, gR_sR, gI_sL, gI_sR, gL_sI, gL_sR, gR_sI, gR_sL, not_true_eq_false, if_false, n4, not_false_eq_true, if_true, g_76, Int.reduceLE, Int.reduceLT, t00, za]
          rw [s109]
          clear s109
          have t00 : (0 : Int).toNat = 0 := rfl
          by_cases eq : leN l = lowB (8 * bytN w) (rdR c 0).2
          · rw [if_pos eq] at e
            cases ew : wrL RB c (rdR c (dR w)).1 (offN (rdR c (dR w)).2 (fO w)).toNat (bysN (rdR c (sRr w)).2 (bytN w)) with
            | none =>
              rw [ew] at e
              cases e
            | some c1 =>
              rw [ew] at e
              have e := Option.some.inj e
              obtain ⟨t9, rel, _⟩ := put _ c1 ew
              have rel2 := back _ c1 0 rel (by decide)
              refine ⟨sL (wzS σ 27 P ((bysN (rdR c (sRr w)).2 (bytN w)).map kpW)) 76 0 (leN l), ?_, by rw [← e]; exact rel2, mvC_t mvC_z mvC_L, fun k s z => fz _ _ _ _ _ z⟩
              rw [e195_109, if_neg (not_not_intro eq)]
              simp only [Option.getD_some, Option.bind_some, Option.toList_some, Option.toList_none, List.cons_append, List.nil_append, and_self, and_true, true_and, false_and, and_false, ite_self, not_true_eq_false, not_false_eq_true, reduceIte, Nat.reduceEqDiff, ab_I, ab_L, ab_R, ao_I, ao_L, ao_R, gL_sL, gI_sI, gR_sR, gI_sL, gI_sR, gL_sI, gL_sR, gR_sI, gR_sL, g_76, bS.1, bS.2, Int.toNat_natCast, sa, t9, e195_134, Int.reduceLE, Int.reduceLT, t00]
          · rw [if_neg eq] at e
            have e := Option.some.inj e
            have rel2 := back σ c 0 h (by decide)
            refine ⟨sL σ 76 0 (leN l), ?_, by rw [← e]; exact rel2, mvC_L, fun k s z => rfl⟩
            rw [e195_109, if_pos eq, e195_134]
            simp only [Option.getD_some, Option.bind_some, Option.toList_some, Option.toList_none, List.cons_append, List.nil_append, and_self, and_true, true_and, false_and, and_false, ite_self, not_true_eq_false, not_false_eq_true, reduceIte, Nat.reduceEqDiff, ab_I, ab_L, ab_R, ao_I, ao_L, ao_R, gL_sL, gI_sI, gR_sR, gI_sL, gI_sR, gL_sI, gL_sR, gR_sI, gR_sL, g_76, Int.reduceLE, Int.reduceLT, t00]
      · rw [if_neg c241] at e
        cases ew : wrL RB c (rdR c (dR w)).1 (offN (rdR c (dR w)).2 (fO w)).toNat (bysN (swpX (fI w) (leN l) (rdR c (sRr w)).2) (bytN w)) with
        | none =>
          rw [ew] at e
          cases e
        | some c1 =>
          rw [ew] at e
          have e := Option.some.inj e
          obtain ⟨t9, rel, _⟩ := put _ c1 ew
          have s186 : RR (lkB tb195) (B195_74, [some (mR (some 71)), some (mL w), none, some (mI (fOp w)), some (mI ((sRr w : Nat) : Int)), some (mI ((bytN w : Nat) : Int)), some (mL B), none, some (mI (fI w)), none, none, none, none], [mL (leN l)], σ) = RR (lkB tb195) (B195_186, [some (mR (some 71)), some (mL w), none, some (mI (fOp w)), some (mI ((sRr w : Nat) : Int)), some (mI ((bytN w : Nat) : Int)), some (mL B), none, some (mI (fI w)), some (mL (leN l)), none, none, none], [mL (swpX (fI w) (leN l) (rdR c (sRr w)).2), mL B, mR (some 71)], σ) := by
            by_cases c225 : fI w = 225
            · have sx : swpX (fI w) (leN l) (rdR c (sRr w)).2 = (rdR c (sRr w)).2 := by rw [c225]; rfl
              rw [sx, e195_74, if_pos c241, if_neg (not_not_intro c225)]
              simp only [Option.getD_some, Option.bind_some, Option.toList_some, Option.toList_none, List.cons_append, List.nil_append, and_self, and_true, true_and, false_and, and_false, ite_self, not_true_eq_false, not_false_eq_true, reduceIte, Nat.reduceEqDiff, ab_I, ab_L, ab_R, ao_I, ao_L, ao_R, gL_sL, gI_sI, gR_sR, gI_sL, gI_sR, gL_sI, gL_sR, gR_sI, gR_sL, g_76, bS.1, bS.2, Int.toNat_natCast, sa]
            · have r1 : iOr 7 (iAnd (fI w) 240) = 7 + fI w / 16 * 16 := by
                rw [x1]
                rcases hx with (q | q | q | q | q) | (q | q | q | q | q)
                all_goals first | (exfalso; omega) | (rw [q]; decide)
              have r2 : (7 + fI w / 16 * 16) / 16 * 16 = fI w / 16 * 16 := by omega
              have r3 : (7 + fI w / 16 * 16) % 8 = 7 := by omega
              have kk : fI w / 16 * 16 = 0 ∨ fI w / 16 * 16 = 64 ∨ fI w / 16 * 16 = 80 ∨ fI w / 16 * 16 = 160 := by omega
              have okc : okC (fI w / 16 * 16) 0 := by
                unfold okC
                omega
              have t20 := T20 (σ := σ) (op := 7 + fI w / 16 * 16) (off := 0) (a := leN l) (b := (rdR c (sRr w)).2) (by omega) (by omega) (by rw [r2]; exact okc)
              rw [r2, r3, if_pos rfl] at t20
              have sx : swpX (fI w) (leN l) (rdR c (sRr w)).2 = reckA (fI w / 16 * 16) 0 true (leN l) (rdR c (sRr w)).2 := by
                unfold swpX
                rcases kk with q | q | q | q <;> rw [q] <;> rfl
              rw [sx, e195_74, if_pos c241, if_pos c225, r1]
              simp only [Option.getD_some, Option.bind_some, Option.toList_some, Option.toList_none, List.cons_append, List.nil_append, and_self, and_true, true_and, false_and, and_false, ite_self, not_true_eq_false, not_false_eq_true, reduceIte, Nat.reduceEqDiff, ab_I, ab_L, ab_R, ao_I, ao_L, ao_R, gL_sL, gI_sI, gR_sR, gI_sL, gI_sR, gL_sI, gL_sR, gR_sI, gR_sL, g_76, bS.1, bS.2, Int.toNat_natCast, sa, t20]
          rw [s186, e195_186, t9]
          simp only [Option.getD_some, Option.bind_some, Option.toList_some, Option.toList_none, List.cons_append, List.nil_append, and_self, and_true, true_and, false_and, and_false, ite_self, not_true_eq_false, not_false_eq_true, reduceIte, Nat.reduceEqDiff, ab_I, ab_L, ab_R, ao_I, ao_L, ao_R, gL_sL, gI_sI, gR_sR, gI_sL, gI_sR, gL_sI, gL_sR, gR_sI, gR_sL]
          by_cases od : fI w % 2 = 1
          · rw [if_pos od] at e
            have s9 : sRr w < 10 := by show (fS w).toNat < 10; omega
            have rel2 := back _ c1 (sRr w) rel s9
            refine ⟨sL (wzS σ 27 P ((bysN (swpX (fI w) (leN l) (rdR c (sRr w)).2) (bytN w)).map kpW)) 76 (sRr w) (leN l), ?_, by rw [← e]; exact rel2, mvC_t mvC_z mvC_L, fun k s z => fz _ _ _ _ _ z⟩
            have n1 : ¬ iAnd (fI w) 1 = 0 := by rw [x2]; omega
            rw [e195_191, if_neg n1]
            simp only [Option.getD_some, Option.bind_some, Option.toList_some, Option.toList_none, List.cons_append, List.nil_append, and_self, and_true, true_and, false_and, and_false, ite_self, not_true_eq_false, not_false_eq_true, reduceIte, Nat.reduceEqDiff, ab_I, ab_L, ab_R, ao_I, ao_L, ao_R, gL_sL, gI_sI, gR_sR, gI_sL, gI_sR, gL_sI, gL_sR, gR_sI, gR_sL, g_76, bS.1, bS.2, Int.toNat_natCast]
          · rw [if_neg od] at e
            have n1 : iAnd (fI w) 1 = 0 := by rw [x2]; omega
            refine ⟨_, ?_, by rw [← e]; exact rel, mvC_z, fun k s z => fz _ _ _ _ _ z⟩
            rw [e195_191, if_pos n1]
end CSWP
