/-! ===== the reference's judge: helpers ===== -/
section HLP
variable {σ τ ρ : MS} {S : ST} {E : EV} {t : Int} {F : Nat}
theorem T534 (h : gI σ 123 0 = (F : Int)) (hF : F ≤ 4) : MM 534 [mR (some 80)] σ = some (none, apS σ pktV (26 * F)) := by
  have key : ∀ m : Nat, m ≤ 26 * F → RR (lkB tb534) (B534_2, [some (mR (some 80)), some (mI ((26 * F - m : Nat) : Int))], [], apS σ pktV (26 * F - m)) = some (none, apS σ pktV (26 * F)) := by
    intro m
    induction m with
    | zero =>
      intro _
      have g : gI (apS σ pktV (26 * F - 0)) 123 0 = (F : Int) := (ap_I (by omega)).trans h
      rw [e534_2]
      simp only [g_123]
      rw [if_pos ⟨by omega, by omega⟩, show (0 : Int).toNat = 0 from rfl, g, w32_i (by omega) (by omega), if_pos (by omega)]
      rfl
    | succ m ih =>
      intro hm
      have ih := ih (by omega)
      have e3 : w32 (((26 * F - (m + 1) : Nat) : Int) + 1) = ((26 * F - m : Nat) : Int) := by
        rw [w32_i (by omega) (by omega)]
        omega
      rw [ap_s (by omega)] at ih
      have g : gI (apS σ pktV (26 * F - (m + 1))) 123 0 = (F : Int) := (ap_I (by omega)).trans h
      have hi : inB ((26 * F - (m + 1) : Nat) : Int) := ⟨by omega, by omega⟩
      generalize ek : 26 * F - (m + 1) = k at *
      generalize eρ : apS σ pktV k = ρ at *
      have i1 := hi.1
      have i2 := hi.2
      have nl : ¬ ((26 * F : Nat) : Int) ≤ (k : Int) := by omega
      have e26 : w32 (26 * (F : Int)) = ((26 * F : Nat) : Int) := by rw [w32_i (by omega) (by omega)]; omega
      have t31 := T431 (σ := ρ) (k := 0) (w := 0) (t := 0) hi (by omega)
      rw [Int.toNat_natCast] at t31
      by_cases c : vk (aV ρ k) = 7 ∨ vk (aV ρ k) = 8
      · have e : pktV (aV ρ k) = unsV := if_pos c
        rw [e] at ih
        have s37 : RR (lkB tb534) (B534_2, [some (mR (some 80)), some (mI (k : Int))], [], ρ) = RR (lkB tb534) (B534_37, [some (mR (some 80)), some (mI (k : Int))], [], ρ) := by
          by_cases c7 : gI ρ 118 k = 7
          · simp only [e534_2, Option.getD_some, Option.bind_some, Option.toList_some, Option.toList_none, List.cons_append, List.nil_append, and_self, and_true, true_and, false_and, and_false, ite_self, not_true_eq_false, not_false_eq_true, reduceIte, Nat.reduceEqDiff, ab_I, ab_L, ab_R, ao_I, ao_L, ao_R, gL_sL, gI_sI, gR_sR, gI_sL, gI_sR, gL_sI, gL_sR, gR_sI, gR_sL, g_123, g_118, Int.reduceLT, Int.reduceLE, show (0 : Int).toNat = 0 from rfl, g, e26, nl, i1, i2, Int.toNat_natCast, c7]
          · have c8 : gI ρ 118 k = 8 := c.resolve_left c7
            simp only [e534_2, Option.getD_some, Option.bind_some, Option.toList_some, Option.toList_none, List.cons_append, List.nil_append, and_self, and_true, true_and, false_and, and_false, ite_self, not_true_eq_false, not_false_eq_true, reduceIte, Nat.reduceEqDiff, ab_I, ab_L, ab_R, ao_I, ao_L, ao_R, gL_sL, gI_sI, gR_sR, gI_sL, gI_sR, gL_sI, gL_sR, gR_sI, gR_sL, g_123, g_118, Int.reduceLT, Int.reduceLE, show (0 : Int).toNat = 0 from rfl, g, e26, nl, i1, i2, Int.toNat_natCast, c8, Int.reduceEq]
        rw [s37]
        simp only [e534_37, e534_45, e534_52, Option.getD_some, Option.bind_some, Option.toList_some, Option.toList_none, List.cons_append, List.nil_append, and_self, and_true, true_and, false_and, and_false, ite_self, not_true_eq_false, not_false_eq_true, reduceIte, Nat.reduceEqDiff, ab_I, ab_L, ab_R, ao_I, ao_L, ao_R, gL_sL, gI_sI, gR_sR, gI_sL, gI_sR, gL_sI, gL_sR, gR_sI, gR_sL, t31, g_122, i1, i2, Int.toNat_natCast, p122, aV_same, wrV_same, e3]
        exact ih
      · have e : pktV (aV ρ k) = aV ρ k := if_neg c
        rw [e, wrV_eta] at ih
        have c7 : ¬ gI ρ 118 k = 7 := fun q => c (Or.inl q)
        have c8 : ¬ gI ρ 118 k = 8 := fun q => c (Or.inr q)
        rw [e534_2]
        simp only [e534_52, Option.getD_some, Option.bind_some, Option.toList_some, Option.toList_none, List.cons_append, List.nil_append, and_self, and_true, true_and, false_and, and_false, ite_self, not_true_eq_false, not_false_eq_true, reduceIte, Nat.reduceEqDiff, ab_I, ab_L, ab_R, ao_I, ao_L, ao_R, gL_sL, gI_sI, gR_sR, gI_sL, gI_sR, gL_sI, gL_sR, gR_sI, gR_sL, g_123, g_118, Int.reduceLT, Int.reduceLE, show (0 : Int).toNat = 0 from rfl, g, e26, nl, i1, i2, Int.toNat_natCast, c7, c8, e3]
        exact ih
  have := key (26 * F) (Nat.le_refl _)
  rw [Nat.sub_self] at this
  rw [M534, e534_0]
  exact this
theorem L536 {x1 T : Int} (h : gI σ 123 0 = (F : Int)) (hF : F ≤ 4) : RR (lkB tb536) (B536_82, [some (mR (some 80)), some (mI x1), some (mI T), some (mI 0)], [], σ) = some (none, apS σ (recV T) (26 * F)) := by
  have key : ∀ m : Nat, m ≤ 26 * F → RR (lkB tb536) (B536_82, [some (mR (some 80)), some (mI x1), some (mI T), some (mI ((26 * F - m : Nat) : Int))], [], apS σ (recV T) (26 * F - m)) = some (none, apS σ (recV T) (26 * F)) := by
    intro m
    induction m with
    | zero =>
      intro _
      have g : gI (apS σ (recV T) (26 * F - 0)) 123 0 = (F : Int) := (ap_I (by omega)).trans h
      rw [e536_82]
      simp only [g_123]
      rw [if_pos ⟨by omega, by omega⟩, show (0 : Int).toNat = 0 from rfl, g, w32_i (by omega) (by omega), if_pos (by omega)]
      rfl
    | succ m ih =>
      intro hm
      have ih := ih (by omega)
      have e3 : w32 (((26 * F - (m + 1) : Nat) : Int) + 1) = ((26 * F - m : Nat) : Int) := by
        rw [w32_i (by omega) (by omega)]
        omega
      rw [ap_s (by omega)] at ih
      have g : gI (apS σ (recV T) (26 * F - (m + 1))) 123 0 = (F : Int) := (ap_I (by omega)).trans h
      have hi : inB ((26 * F - (m + 1) : Nat) : Int) := ⟨by omega, by omega⟩
      generalize ek : 26 * F - (m + 1) = k at *
      generalize eρ : apS σ (recV T) k = ρ at *
      have i1 := hi.1
      have i2 := hi.2
      have nl : ¬ ((26 * F : Nat) : Int) ≤ (k : Int) := by omega
      have e26 : w32 (26 * (F : Int)) = ((26 * F : Nat) : Int) := by rw [w32_i (by omega) (by omega)]; omega
      have t31 := T431 (σ := ρ) (k := 0) (w := 0) (t := 0) hi (by omega)
      rw [Int.toNat_natCast] at t31
      by_cases c : vk (aV ρ k) = 9 ∧ vt (aV ρ k) = T
      · have e : recV T (aV ρ k) = unsV := if_pos c
        rw [e] at ih
        have c9 : gI ρ 118 k = 9 := c.1
        have c2 : gI ρ 121 k = T := c.2
        rw [e536_82]
        simp only [e536_124, e536_131, Option.getD_some, Option.bind_some, Option.toList_some, Option.toList_none, List.cons_append, List.nil_append, and_self, and_true, true_and, false_and, and_false, ite_self, not_true_eq_false, not_false_eq_true, reduceIte, Nat.reduceEqDiff, ab_I, ab_L, ab_R, ao_I, ao_L, ao_R, gL_sL, gI_sI, gR_sR, gI_sL, gI_sR, gL_sI, gL_sR, gR_sI, gR_sL, g_123, g_118, g_121, Int.reduceLT, Int.reduceLE, show (0 : Int).toNat = 0 from rfl, g, e26, nl, i1, i2, Int.toNat_natCast, c9, c2, t31, g_122, p122, aV_same, wrV_same, e3]
        exact ih
      · have e : recV T (aV ρ k) = aV ρ k := if_neg c
        rw [e, wrV_eta] at ih
        by_cases c9 : gI ρ 118 k = 9
        · have c2 : ¬ gI ρ 121 k = T := fun q => c ⟨c9, q⟩
          rw [e536_82]
          simp only [e536_131, Option.getD_some, Option.bind_some, Option.toList_some, Option.toList_none, List.cons_append, List.nil_append, and_self, and_true, true_and, false_and, and_false, ite_self, not_true_eq_false, not_false_eq_true, reduceIte, Nat.reduceEqDiff, ab_I, ab_L, ab_R, ao_I, ao_L, ao_R, gL_sL, gI_sI, gR_sR, gI_sL, gI_sR, gL_sI, gL_sR, gR_sI, gR_sL, g_123, g_118, g_121, Int.reduceLT, Int.reduceLE, show (0 : Int).toNat = 0 from rfl, g, e26, nl, i1, i2, Int.toNat_natCast, c9, c2, e3]
          exact ih
        · rw [e536_82]
          simp only [e536_131, Option.getD_some, Option.bind_some, Option.toList_some, Option.toList_none, List.cons_append, List.nil_append, and_self, and_true, true_and, false_and, and_false, ite_self, not_true_eq_false, not_false_eq_true, reduceIte, Nat.reduceEqDiff, ab_I, ab_L, ab_R, ao_I, ao_L, ao_R, gL_sL, gI_sI, gR_sR, gI_sL, gI_sR, gL_sI, gL_sR, gR_sI, gR_sL, g_123, g_118, g_121, Int.reduceLT, Int.reduceLE, show (0 : Int).toNat = 0 from rfl, g, e26, nl, i1, i2, Int.toNat_natCast, c9, e3]
          exact ih
  have := key (26 * F) (Nat.le_refl _)
  rw [Nat.sub_self] at this
  exact this
/-- what helps a helper: the state, the maps, no fault -/
def pH (σ : MS) (S : ST) (E : EV) (t : Int) : Prop := (J0 σ S ∧ okS E t S ∧ canS S ∧ EO σ E) ∧ gI σ 80 90 = 0 ∧ okE E
theorem maps_k (h : pH σ S E t) {r : Nat} (hr : r ≤ 9) {a b : Int} (ha : 0 ≤ a) (hw : wntM E (rgV S r) a b = 0) : vk (rgV S r) = 4 ∧ (0 ≤ vw (rgV S r) ∧ vw (rgV S r) ≤ 7) ∧ a ≤ E.1 (vw (rgV S r)).toNat ∧ E.1 (vw (rgV S r)).toNat ≤ b := by
  obtain ⟨⟨h1, h2, h3, h4⟩, h5, h6⟩ := h
  unfold wntM wntA at hw
  by_cases c1 : vk (rgV S r) = 0
  · rw [if_pos c1] at hw
    exact absurd hw (by decide)
  · rw [if_neg c1] at hw
    by_cases c2 : isMb (rgV S r)
    · rw [if_pos c2] at hw
      exact absurd hw (by decide)
    · rw [if_neg c2] at hw
      by_cases c3 : vk (rgV S r) = 4 ∧ a ≤ E.1 (vw (rgV S r)).toNat ∧ E.1 (vw (rgV S r)).toNat ≤ b
      · have := (okV_r h2 (show r ≤ 10 by omega)).2.2.2.1 c3.1
        exact ⟨c3.1, ⟨this.1, this.2.1⟩, c3.2⟩
      · rw [decide_eq_false c3, if_neg (by decide)] at hw
        exact absurd hw (by decide)
theorem T532 {h : Int} (H : pH σ S E t) (hh : h = 1 ∨ h = 2 ∨ h = 3) : ∃ v : Int, (hlpF E S h = 0 → v = if h = 1 then vw (rgV S 1) + 1 else 0) ∧ okc (MM 532 [mR (some 80), mI h] σ) (some (mI v)) (fun τ => sqc τ (flt σ (hlpF E S h))) := by
  have H' := H
  obtain ⟨⟨h1, h2, h3, h4⟩, h5, h6⟩ := H'
  have hF := h2.1
  have t29 := T529 h1 h2 h4 (r := 1) (x := 0) (y := 1) (by omega)
  rw [show ((1 : Nat) : Int) = 1 from rfl] at t29
  have un1 : hlpF E S h = if h = 2 then fst (fst (fst (wntM E (rgV S 1) 0 1) (wntB E S (rgV S 2) (E.2.1 (vw (rgV S 1)).toNat))) (wntB E S (rgV S 3) (E.2.2 (vw (rgV S 1)).toNat))) (wntK (rgV S 4) 1) else fst (wntM E (rgV S 1) 0 1) (wntB E S (rgV S 2) (E.2.1 (vw (rgV S 1)).toNat)) := by
    unfold hlpF
    rcases hh with rfl | rfl | rfl
    · rw [if_pos (Or.inl rfl), if_neg (by decide)]
    · rw [if_neg (by decide), if_pos rfl, if_pos rfl]
    · rw [if_pos (Or.inr rfl), if_neg (by decide)]
  by_cases f1 : wntM E (rgV S 1) 0 1 = 0
  · obtain ⟨m1, m2, m3, m4⟩ := maps_k H (r := 1) (by omega) (by omega) f1
    have hb := h6 (vw (rgV S 1)).toNat (by omega) (by omega)
    have hk := (hb.2 (by omega)).1
    have hv := (hb.2 (by omega)).2
    obtain ⟨x1, x2, -, -⟩ := h4 (vw (rgV S 1)).toNat (by omega)
    have ek : E.2.1 (vw (rgV S 1)).toNat = (((E.2.1 (vw (rgV S 1)).toNat).toNat : Nat) : Int) := by omega
    have ev : E.2.2 (vw (rgV S 1)).toNat = (((E.2.2 (vw (rgV S 1)).toNat).toNat : Nat) : Int) := by omega
    rw [f1, flt_0] at t29
    rw [f1, fst0] at un1
    have a1 := at_n h1 hF (r := 1) (by omega)
    rw [show ((1 : Nat) : Int) = 1 from rfl] at a1
    have v1 := at_nv h1 hF (r := 1) (by omega)
    have b1 := at_b hF (r := 1) (by omega)
    have w1 : gI σ 120 (26 * (sF S - 1) + 1) = vw (rgV S 1) := by rw [q120, v1]
    have i8 : vw (rgV S 1) < 8 := by omega
    have t30 := T530 h1 h2 h3 h4 h5 (r := 2) (n := (E.2.1 (vw (rgV S 1)).toNat).toNat) (by omega) (by omega)
    rw [← ek, show ((2 : Nat) : Int) = 2 from rfl] at t30
    have s25 : MM 532 [mR (some 80), mI h] σ = (MM 530 [mR (some 80), mI 2, mI (E.2.1 (vw (rgV S 1)).toNat)] σ).bind fun q => RR (lkB tb532) (B532_38, [some (mR (some 80)), some (mI h), some (mI (vw (rgV S 1)))], q.1.toList ++ [], q.2) := by
      simp only [M532, e532_0, e532_7, e532_25, Option.getD_some, Option.bind_some, Option.toList_some, Option.toList_none, List.cons_append, List.nil_append, and_self, and_true, true_and, false_and, and_false, ite_self, not_true_eq_false, not_false_eq_true, reduceIte, Nat.reduceEqDiff, ab_I, ab_L, ab_R, ao_I, ao_L, ao_R, gL_sL, gI_sI, gR_sR, gI_sL, gI_sR, gL_sI, gL_sR, gR_sI, gR_sL, t29, h5, a1, g_120, g_97, b1.1, b1.2, Int.toNat_natCast, w1, m2.1, i8, x1]
    have e73 : ∀ ρ' : MS, RR (lkB tb532) (B532_73, [some (mR (some 80)), some (mI h), some (mI (vw (rgV S 1)))], [], ρ') = some (some (mI (if h = 1 then vw (rgV S 1) + 1 else 0)), ρ') := fun ρ' => by
      rw [e532_73]
      by_cases c : h = 1
      · rw [if_neg (not_not_intro c), if_pos c, w32_i (by omega) (by omega)]
      · rw [if_pos c, if_neg c]
    refine ⟨if h = 1 then vw (rgV S 1) + 1 else 0, fun _ => rfl, ?_⟩
    rw [s25]
    refine okc_b t30 fun ρ q => ?_
    simp only [Option.toList_none, List.nil_append]
    by_cases f2 : wntB E S (rgV S 2) (E.2.1 (vw (rgV S 1)).toNat) = 0
    · rw [f2, flt_0] at q
      have g0 : gI ρ 80 90 = 0 := (sqc_I q (by omega) (by omega)).trans h5
      by_cases c2 : h = 2
      · rw [if_pos c2, f2, fst0] at un1
        have j2 := JSt_sq q (by omega) hF.2 h1
        have t31 := T530 j2 h2 h3 (EO_sq q h4) g0 (r := 3) (n := (E.2.2 (vw (rgV S 1)).toNat).toNat) (by omega) (by omega)
        rw [← ev, show ((3 : Nat) : Int) = 3 from rfl] at t31
        have x2' : gI ρ 98 (vw (rgV S 1)).toNat = E.2.2 (vw (rgV S 1)).toNat := (sqc_I q (by omega) (by omega)).trans x2
        have s38 : RR (lkB tb532) (B532_38, [some (mR (some 80)), some (mI h), some (mI (vw (rgV S 1)))], [], ρ) = (MM 530 [mR (some 80), mI 3, mI (E.2.2 (vw (rgV S 1)).toNat)] ρ).bind fun q => RR (lkB tb532) (B532_61, [some (mR (some 80)), some (mI h), some (mI (vw (rgV S 1)))], q.1.toList ++ [], q.2) := by
          simp only [e532_38, Option.getD_some, Option.bind_some, Option.toList_some, Option.toList_none, List.cons_append, List.nil_append, and_self, and_true, true_and, false_and, and_false, ite_self, not_true_eq_false, not_false_eq_true, reduceIte, Nat.reduceEqDiff, ab_I, ab_L, ab_R, ao_I, ao_L, ao_R, gL_sL, gI_sI, gR_sR, gI_sL, gI_sR, gL_sI, gL_sR, gR_sI, gR_sL, g0, c2, g_98, m2.1, i8, x2']
        rw [s38]
        refine okc_b t31 fun ρ2 q2 => ?_
        simp only [Option.toList_none, List.nil_append]
        by_cases f3 : wntB E S (rgV S 3) (E.2.2 (vw (rgV S 1)).toNat) = 0
        · rw [f3, flt_0] at q2
          rw [f3, fst0] at un1
          have g2 : gI ρ2 80 90 = 0 := (sqc_I q2 (by omega) (by omega)).trans g0
          have t27 := T527 (JSt_sq q2 (by omega) hF.2 j2) hF (r := 4) (by omega)
          rw [show ((4 : Nat) : Int) = 4 from rfl] at t27
          simp only [e532_61, Option.getD_some, Option.bind_some, Option.toList_some, Option.toList_none, List.cons_append, List.nil_append, and_self, and_true, true_and, false_and, and_false, ite_self, not_true_eq_false, not_false_eq_true, reduceIte, Nat.reduceEqDiff, ab_I, ab_L, ab_R, ao_I, ao_L, ao_R, gL_sL, gI_sI, gR_sR, gI_sL, gI_sR, gL_sI, gL_sR, gR_sI, gR_sL, g2, t27, e73]
          refine okc_s ?_
          rw [un1]
          exact sqc_flt (sqc_t q2 q)
        · have g2 : ¬ gI ρ2 80 90 = 0 := by
            rw [sqc_I q2 (by omega) (by omega), fl_g, g0, fst0]
            exact f3
          simp only [e532_61, Option.getD_some, Option.bind_some, Option.toList_some, Option.toList_none, List.cons_append, List.nil_append, and_self, and_true, true_and, false_and, and_false, ite_self, not_true_eq_false, not_false_eq_true, reduceIte, Nat.reduceEqDiff, ab_I, ab_L, ab_R, ao_I, ao_L, ao_R, gL_sL, gI_sI, gR_sR, gI_sL, gI_sR, gL_sI, gL_sR, gR_sI, gR_sL, g2, e73]
          refine okc_s ?_
          rw [un1, show fst (wntB E S (rgV S 3) (E.2.2 (vw (rgV S 1)).toNat)) (wntK (rgV S 4) 1) = wntB E S (rgV S 3) (E.2.2 (vw (rgV S 1)).toNat) from if_neg f3]
          exact sqc_t q2 (sqc_flt q)
      · rw [if_neg c2] at un1
        simp only [e532_38, Option.getD_some, Option.bind_some, Option.toList_some, Option.toList_none, List.cons_append, List.nil_append, and_self, and_true, true_and, false_and, and_false, ite_self, not_true_eq_false, not_false_eq_true, reduceIte, Nat.reduceEqDiff, ab_I, ab_L, ab_R, ao_I, ao_L, ao_R, gL_sL, gI_sI, gR_sR, gI_sL, gI_sR, gL_sI, gL_sR, gR_sI, gR_sL, g0, c2, e73]
        refine okc_s ?_
        rw [un1, f2, flt_0]
        exact q
    · have g0 : ¬ gI ρ 80 90 = 0 := by
        rw [sqc_I q (by omega) (by omega), fl_g, h5, fst0]
        exact f2
      simp only [e532_38, Option.getD_some, Option.bind_some, Option.toList_some, Option.toList_none, List.cons_append, List.nil_append, and_self, and_true, true_and, false_and, and_false, ite_self, not_true_eq_false, not_false_eq_true, reduceIte, Nat.reduceEqDiff, ab_I, ab_L, ab_R, ao_I, ao_L, ao_R, gL_sL, gI_sI, gR_sR, gI_sL, gI_sR, gL_sI, gL_sR, gR_sI, gR_sL, g0, e73]
      refine okc_s ?_
      have e : hlpF E S h = wntB E S (rgV S 2) (E.2.1 (vw (rgV S 1)).toNat) := by
        rw [un1]
        split
        · unfold fst
          rw [if_neg f2, if_neg f2]
        · rfl
      rw [e]
      exact q
  · have e : hlpF E S h = wntM E (rgV S 1) 0 1 := by
      rw [un1]
      unfold fst
      split
      · first
        | rfl
        | rw [if_neg f1, if_neg f1, if_neg f1]
      · first
        | rfl
        | rw [if_neg f1]
    have g0 : ¬ gI (flt σ (wntM E (rgV S 1) 0 1)) 80 90 = 0 := by rw [fl_g, h5, fst0]; exact f1
    refine ⟨0, fun z => absurd (e ▸ z) f1, ?_⟩
    simp only [M532, e532_0, e532_7, Option.getD_some, Option.bind_some, Option.toList_some, Option.toList_none, List.cons_append, List.nil_append, and_self, and_true, true_and, false_and, and_false, ite_self, not_true_eq_false, not_false_eq_true, reduceIte, Nat.reduceEqDiff, ab_I, ab_L, ab_R, ao_I, ao_L, ao_R, gL_sL, gI_sI, gR_sR, gI_sL, gI_sR, gL_sI, gL_sR, gR_sI, gR_sL, t29, g0]
    refine okc_s ?_
    rw [e]
    exact sqc_r _
theorem T535 (H : pH σ S E t) : ∃ v : Int, (hlpF E S 131 = 0 → v = (jV (vn (rgV S 2))).toInt + 1 ∧ 1 ≤ (jV (vn (rgV S 2))).toInt ∧ (jV (vn (rgV S 2))).toInt ≤ 64 ∧ (sH S).length < 64) ∧ MM 535 [mR (some 80)] σ = some (some (mI v), flt σ (hlpF E S 131)) := by
  have H' := H
  obtain ⟨⟨h1, h2, h3, h4⟩, h5, h6⟩ := H'
  have hF := h2.1
  have hH := h2.2.2.2.2.2.1
  have t29 := T529 h1 h2 h4 (r := 1) (x := 3) (y := 3) (by omega)
  rw [show ((1 : Nat) : Int) = 1 from rfl] at t29
  generalize ea : wntM E (rgV S 1) 3 3 = a at t29
  have j1 : J0 (flt σ a) S := JSt_flt h1
  have a2 := at_n j1 hF (r := 2) (by omega)
  rw [show ((2 : Nat) : Int) = 2 from rfl] at a2
  have v2 := at_nv h1 hF (r := 2) (by omega)
  have b2x := at_b hF (r := 2) (by omega)
  have t26 := T526 (σ := flt σ a) (p := vk (rgV S 2) = 1 ∧ isC (vn (rgV S 2)) ∧ 1 ≤ (jV (vn (rgV S 2))).toInt ∧ (jV (vn (rgV S 2))).toInt ≤ 64) (d := inferInstance) b2x
  rw [Int.toNat_natCast, aV_flt, v2] at t26
  generalize eb : wntA (rgV S 2) (decide (vk (rgV S 2) = 1 ∧ isC (vn (rgV S 2)) ∧ 1 ≤ (jV (vn (rgV S 2))).toInt ∧ (jV (vn (rgV S 2))).toInt ≤ 64)) = b at t26
  have j2 : J0 (flt (flt σ a) b) S := JSt_flt j1
  have t27 := T527 j2 hF (r := 3) (by omega)
  rw [show ((3 : Nat) : Int) = 3 from rfl] at t27
  have un : hlpF E S 131 = fst (fst (fst a b) (wntK (rgV S 3) 1)) (if (sH S).length = 64 then 12 else 0) := by
    rw [← ea, ← eb]
    unfold hlpF
    rw [if_neg (by decide), if_neg (by decide), if_neg (by decide), if_neg (by decide), if_neg (by decide), if_neg (by decide), if_neg (by decide), if_pos rfl]
  have k118 : ∀ c, gI (flt σ c) 118 (26 * (sF S - 1) + 2) = vk (rgV S 2) := fun c => by rw [q118, aV_flt, v2]
  have k112 : ∀ c, gL (flt σ c) 112 (26 * (sF S - 1) + 2) = jV (vn (rgV S 2)) := fun c => by rw [q112, aV_flt, v2]
  have k113 : gL (flt σ a) 113 (26 * (sF S - 1) + 2) = jM (vn (rgV S 2)) := by rw [q113, aV_flt, v2]
  have t39 := T439 (σ := flt σ a) b2x.1 b2x.2
  rw [Int.toNat_natCast, k113] at t39
  have i1 : (BitVec.ofNat 64 1).toInt = 1 := by decide
  have i64 : (iL 64).toInt = 64 := by decide
  have s65 : MM 535 [mR (some 80)] σ = RR (lkB tb535) (B535_65, [some (mR (some 80)), some (mI ((26 * (sF S - 1) + 2 : Nat) : Int))], [], flt σ (fst a b)) := by
    by_cases c1 : vk (rgV S 2) = 1
    · by_cases c2 : isC (vn (rgV S 2))
      · have c2' : jM (vn (rgV S 2)) = 0#64 := c2
        by_cases c3 : (jV (vn (rgV S 2))).toInt < 1
        · rw [b2_no (p := vk (rgV S 2) = 1 ∧ isC (vn (rgV S 2)) ∧ 1 ≤ (jV (vn (rgV S 2))).toInt ∧ (jV (vn (rgV S 2))).toInt ≤ 64) (fun q => by omega)] at t26
          simp only [M535, e535_0, e535_7, e535_12, e535_30, e535_61, e535_62, Option.getD_some, Option.bind_some, Option.toList_some, Option.toList_none, List.cons_append, List.nil_append, and_self, and_true, true_and, false_and, and_false, ite_self, not_true_eq_false, not_false_eq_true, reduceIte, Nat.reduceEqDiff, ab_I, ab_L, ab_R, ao_I, ao_L, ao_R, gL_sL, gI_sI, gR_sR, gI_sL, gI_sR, gL_sI, gL_sR, gR_sI, gR_sL, t29, a2, g_118, g_112, b2x.1, b2x.2, Int.toNat_natCast, k118, k112, c1, t39, b2_0', c2', i1, c3, t26, flt_flt]
        · by_cases c4 : 64 < (jV (vn (rgV S 2))).toInt
          · rw [b2_no (p := vk (rgV S 2) = 1 ∧ isC (vn (rgV S 2)) ∧ 1 ≤ (jV (vn (rgV S 2))).toInt ∧ (jV (vn (rgV S 2))).toInt ≤ 64) (fun q => by omega)] at t26
            simp only [M535, e535_0, e535_7, e535_12, e535_30, e535_61, e535_62, Option.getD_some, Option.bind_some, Option.toList_some, Option.toList_none, List.cons_append, List.nil_append, and_self, and_true, true_and, false_and, and_false, ite_self, not_true_eq_false, not_false_eq_true, reduceIte, Nat.reduceEqDiff, ab_I, ab_L, ab_R, ao_I, ao_L, ao_R, gL_sL, gI_sI, gR_sR, gI_sL, gI_sR, gL_sI, gL_sR, gR_sI, gR_sL, t29, a2, g_118, g_112, b2x.1, b2x.2, Int.toNat_natCast, k118, k112, c1, t39, b2_0', c2', i1, i64, c3, c4, t26, flt_flt]
          · rw [b2_yes (p := vk (rgV S 2) = 1 ∧ isC (vn (rgV S 2)) ∧ 1 ≤ (jV (vn (rgV S 2))).toInt ∧ (jV (vn (rgV S 2))).toInt ≤ 64) ⟨c1, c2, by omega, by omega⟩] at t26
            simp only [M535, e535_0, e535_7, e535_12, e535_30, e535_61, e535_62, Option.getD_some, Option.bind_some, Option.toList_some, Option.toList_none, List.cons_append, List.nil_append, and_self, and_true, true_and, false_and, and_false, ite_self, not_true_eq_false, not_false_eq_true, reduceIte, Nat.reduceEqDiff, ab_I, ab_L, ab_R, ao_I, ao_L, ao_R, gL_sL, gI_sI, gR_sR, gI_sL, gI_sR, gL_sI, gL_sR, gR_sI, gR_sL, t29, a2, g_118, g_112, b2x.1, b2x.2, Int.toNat_natCast, k118, k112, c1, t39, b2_0', c2', i1, i64, c3, c4, t26, flt_flt]
      · have c2' : ¬ jM (vn (rgV S 2)) = 0#64 := c2
        rw [b2_no (p := vk (rgV S 2) = 1 ∧ isC (vn (rgV S 2)) ∧ 1 ≤ (jV (vn (rgV S 2))).toInt ∧ (jV (vn (rgV S 2))).toInt ≤ 64) (fun q => c2 q.2.1)] at t26
        simp only [M535, e535_0, e535_7, e535_12, e535_30, e535_61, e535_62, Option.getD_some, Option.bind_some, Option.toList_some, Option.toList_none, List.cons_append, List.nil_append, and_self, and_true, true_and, false_and, and_false, ite_self, not_true_eq_false, not_false_eq_true, reduceIte, Nat.reduceEqDiff, ab_I, ab_L, ab_R, ao_I, ao_L, ao_R, gL_sL, gI_sI, gR_sR, gI_sL, gI_sR, gL_sI, gL_sR, gR_sI, gR_sL, t29, a2, g_118, b2x.1, b2x.2, Int.toNat_natCast, k118, c1, t39, b2_0', c2', t26, flt_flt]
    · rw [b2_no (p := vk (rgV S 2) = 1 ∧ isC (vn (rgV S 2)) ∧ 1 ≤ (jV (vn (rgV S 2))).toInt ∧ (jV (vn (rgV S 2))).toInt ≤ 64) (fun q => c1 q.1)] at t26
      simp only [M535, e535_0, e535_7, e535_12, e535_61, e535_62, Option.getD_some, Option.bind_some, Option.toList_some, Option.toList_none, List.cons_append, List.nil_append, and_self, and_true, true_and, false_and, and_false, ite_self, not_true_eq_false, not_false_eq_true, reduceIte, Nat.reduceEqDiff, ab_I, ab_L, ab_R, ao_I, ao_L, ao_R, gL_sL, gI_sI, gR_sR, gI_sL, gI_sR, gL_sI, gL_sR, gR_sI, gR_sL, t29, a2, g_118, b2x.1, b2x.2, Int.toNat_natCast, k118, c1, t26, flt_flt]
  rw [flt_flt] at t27
  generalize ec : wntK (rgV S 3) 1 = c at t27 un
  have s70 : MM 535 [mR (some 80)] σ = RR (lkB tb535) (B535_70, [some (mR (some 80)), some (mI ((26 * (sF S - 1) + 2 : Nat) : Int))], [], flt σ (fst (fst a b) c)) := by
    rw [s65]
    simp only [e535_65, Option.getD_some, Option.bind_some, Option.toList_some, Option.toList_none, List.cons_append, List.nil_append, and_self, and_true, true_and, false_and, and_false, ite_self, not_true_eq_false, not_false_eq_true, reduceIte, Nat.reduceEqDiff, ab_I, ab_L, ab_R, ao_I, ao_L, ao_R, gL_sL, gI_sI, gR_sR, gI_sL, gI_sR, gL_sI, gL_sR, gR_sI, gR_sL, t27, flt_flt]
  rw [s70]
  generalize ef : fst (fst a b) c = f at *
  have gf : gI (flt σ f) 80 90 = f := by rw [fl_g, h5, fst0]
  have g125 : gI (flt σ f) 125 0 = ((sH S).length : Int) := by rw [fl_o (by omega)]; exact h1.2.2.2.1
  by_cases z : f = 0
  · by_cases l : (sH S).length = 64
    · have l' : ((sH S).length : Int) = 64 := by omega
      rw [if_pos l] at un
      have u12 : hlpF E S 131 = 12 := by rw [un, z, fst0]
      refine ⟨0, fun q => absurd (u12.symm.trans q) (by decide), ?_⟩
      have g12 : ¬ gI (flt σ 12) 80 90 = 0 := by rw [fl_g, h5, fst0]; decide
      rw [z, flt_0] at g125 ⊢
      simp only [e535_70, e535_94, Option.getD_some, Option.bind_some, Option.toList_some, Option.toList_none, List.cons_append, List.nil_append, and_self, and_true, true_and, false_and, and_false, ite_self, not_true_eq_false, not_false_eq_true, reduceIte, Nat.reduceEqDiff, ab_I, ab_L, ab_R, ao_I, ao_L, ao_R, gL_sL, gI_sI, gR_sR, gI_sL, gI_sR, gL_sI, gL_sR, gR_sI, gR_sL, h5, g_125, Int.reduceLT, Int.reduceLE, show (0 : Int).toNat = 0 from rfl, g125, l', T473, g12, u12]
    · have l' : ¬ ((sH S).length : Int) = 64 := by omega
      rw [if_neg l] at un
      have u0 : hlpF E S 131 = 0 := by rw [un, z]; rfl
      have bz : b = 0 := by
        by_cases q : b = 0
        · exact q
        · exfalso
          have : fst a b = 0 := by
            refine Classical.byContradiction fun r => ?_
            rw [show fst (fst a b) c = fst a b from if_neg r] at ef
            exact r (ef.trans z)
          unfold fst at this
          split at this
          · exact q this
          · rename_i r
            exact r this
      rw [bz] at eb
      have p : vk (rgV S 2) = 1 ∧ isC (vn (rgV S 2)) ∧ 1 ≤ (jV (vn (rgV S 2))).toInt ∧ (jV (vn (rgV S 2))).toInt ≤ 64 := by
        unfold wntA at eb
        by_cases q1 : vk (rgV S 2) = 0
        · rw [if_pos q1] at eb
          exact absurd eb (by decide)
        · rw [if_neg q1] at eb
          by_cases q2 : isMb (rgV S 2)
          · rw [if_pos q2] at eb
            exact absurd eb (by decide)
          · rw [if_neg q2] at eb
            by_cases q3 : vk (rgV S 2) = 1 ∧ isC (vn (rgV S 2)) ∧ 1 ≤ (jV (vn (rgV S 2))).toInt ∧ (jV (vn (rgV S 2))).toInt ≤ 64
            · exact q3
            · rw [decide_eq_false q3, if_neg (by decide)] at eb
              exact absurd eb (by decide)
      refine ⟨(jV (vn (rgV S 2))).toInt + 1, fun _ => ⟨rfl, p.2.2.1, p.2.2.2, by omega⟩, ?_⟩
      have el : w32 (lI (jV (vn (rgV S 2))) + 1) = (jV (vn (rgV S 2))).toInt + 1 := by
        have e : lI (jV (vn (rgV S 2))) = (jV (vn (rgV S 2))).toInt := w32_i (by omega) (by omega)
        rw [e, w32_i (by omega) (by omega)]
      rw [z, flt_0] at g125 ⊢
      rw [u0, flt_0]
      have k112' : gL σ 112 (26 * (sF S - 1) + 2) = jV (vn (rgV S 2)) := by rw [q112, v2]
      simp only [e535_70, e535_94, Option.getD_some, Option.bind_some, Option.toList_some, Option.toList_none, List.cons_append, List.nil_append, and_self, and_true, true_and, false_and, and_false, ite_self, not_true_eq_false, not_false_eq_true, reduceIte, Nat.reduceEqDiff, ab_I, ab_L, ab_R, ao_I, ao_L, ao_R, gL_sL, gI_sI, gR_sR, gI_sL, gI_sR, gL_sI, gL_sR, gR_sI, gR_sL, h5, g_125, g_112, b2x.1, b2x.2, Int.toNat_natCast, Int.reduceLT, Int.reduceLE, show (0 : Int).toNat = 0 from rfl, g125, l', k112', el]
  · have gz : ¬ gI (flt σ f) 80 90 = 0 := by rw [gf]; exact z
    have u : hlpF E S 131 = f := by
      rw [un]
      exact if_neg z
    refine ⟨0, fun q => absurd (u.symm.trans q) z, ?_⟩
    simp only [e535_70, e535_94, Option.getD_some, Option.bind_some, Option.toList_some, Option.toList_none, List.cons_append, List.nil_append, and_self, and_true, true_and, false_and, and_false, ite_self, not_true_eq_false, not_false_eq_true, reduceIte, Nat.reduceEqDiff, ab_I, ab_L, ab_R, ao_I, ao_L, ao_R, gL_sL, gI_sI, gR_sR, gI_sL, gI_sR, gL_sI, gL_sR, gR_sI, gR_sL, gz, u]
end HLP
