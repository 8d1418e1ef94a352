/-! ===== the reference's runs: STEPS, CHANCE, TRACE, TAIL, COPY ===== -/
section RHLP
variable {σ τ ρ υ : MS} {c c' : TC WR} {W V : WR} {w x A a F v : B64} {r f b k n o s m e : Nat} {l key val : List Int} {y nx hh : Int} {E : EV} {S : Nat → Nat → MB} {u : SV}
theorem hp_5 (h : RelR σ c) (e : hpT RB RH E c 5 nx = some (k, c')) : hpo σ c 5 nx k c' := by
  unfold hpT at e
  rw [if_neg (by decide), if_pos rfl] at e
  have e : bhT c (cS c) (cW c) (0, (cW c).2.2) nx = some (k, c') := e
  refine hpo_b (v := (cW c).2.2) (τ := σ) ?_ mvR_r (fun _ _ => rfl) h enG_0.symm okSV_0 e
  rw [L563 h, e563_51]
  simp only [Option.getD_some, Option.bind_some, Option.toList_some, Option.toList_none, List.cons_append, List.nil_append, and_self, and_true, true_and, false_and, and_false, ite_self, not_true_eq_false, not_false_eq_true, reduceIte, Nat.reduceEqDiff, ab_I, ab_L, ab_R, ao_I, ao_L, ao_R, gL_sL, gI_sI, gR_sR, gI_sL, gI_sR, gL_sI, gL_sR, gR_sI, gR_sL, Int.reduceEq, if_true, if_false]
  rw [(RelR_wld h).2.2]
theorem hp_7 (h : RelR σ c) (e : hpT RB RH E c 7 nx = some (k, c')) : hpo σ c 7 nx k c' := by
  unfold hpT at e
  rw [if_neg (by decide), if_neg (by decide), if_neg (by decide), if_pos rfl] at e
  have e : bhT c (cS c) ((cW c).1, chaX (cW c).2.1, (cW c).2.2) (0, chaX (cW c).2.1 >>> 32) nx = some (k, c') := e
  have w := RelR_wld h
  have ec : gL σ 80 108 * iL 6364136223846793005 + iL 1442695040888963407 = chaX (cW c).2.1 := by
    rw [w.2.1]
    rfl
  obtain ⟨z, hz⟩ : ∃ z, z = chaX (cW c).2.1 := ⟨_, rfl⟩
  rw [← hz] at e ec
  refine hpo_b (v := z >>> 32) (τ := sL σ 80 108 z) (u := (0, z >>> 32)) (W := ((cW c).1, z, (cW c).2.2)) ?_ ⟨fun _ _ _ => rfl, fun k s z1 z2 => ?_, rfl⟩ (fun _ _ => rfl) (RelR_w h rfl (fun s => ?_) (fun _ => rfl) (fun _ => rfl) ⟨w.1, ?_, ?_⟩) enG_0.symm okSV_0 e
  · rw [L563 h, e563_51]
    simp only [Option.getD_some, Option.bind_some, Option.toList_some, Option.toList_none, List.cons_append, List.nil_append, and_self, and_true, true_and, false_and, and_false, ite_self, not_true_eq_false, not_false_eq_true, reduceIte, Nat.reduceEqDiff, ab_I, ab_L, ab_R, ao_I, ao_L, ao_R, gL_sL, gI_sI, gR_sR, gI_sL, gI_sR, gL_sI, gL_sR, gR_sI, gR_sL, Int.reduceEq, if_true, if_false, ec]
    rfl
  · rw [gL_sL, if_neg (by omega)]
  · rw [gL_sL, if_neg (by omega)]
  · rw [gL_sL, if_pos ⟨rfl, rfl⟩]
  · rw [gL_sL, if_neg (by omega)]
    exact w.2.2
/-! TRACE -/
theorem L563t {x2 x4 x6 x8 : B64} {x10 : Int} {N : Nat} (e2 : x2 = adR o + BitVec.ofNat 64 b) (e4 : x4 = BitVec.ofNat 64 N) (hN : N ≤ 64) (ob : ∀ i, i < N → obR o (b + i)) : ∀ (f j : Nat) (ρ : MS) (W : WR), j + f = N → wldR ρ W → 0 ≤ wg W 80 113 ∧ wg W 80 113 ≤ 2000 → ∃ τ, RR (lkB tb563) (B563_271, [some (mR (some 80)), some (mI hh), some (mL x2), none, some (mL x4), none, some (mL x6), none, some (mL x8), none, some (mI x10), none, some (mI (j : Int))], [], ρ) = some (some (mL x4), τ) ∧ wldR τ (traR W ((lsR ρ o (b + j) f).map kpW)) ∧ τ.2 = ρ.2 ∧ ∀ k s, ¬ (k = 145 ∨ k = 80 ∧ s = 113) → gI τ k s = gI ρ k s := by
  have t4 : x4.toInt = (N : Int) := by
    rw [e4, toInt_c, BitVec.toNat_ofNat]
    split <;> omega
  intro f
  induction f with
  | zero =>
    intro j ρ W z h _
    have z : j = N := by omega
    subst z
    have tj : (iL (j : Int)).toInt = (j : Int) := by
      show (BitVec.ofInt 64 (j : Int)).toInt = _
      rw [BitVec.toInt_ofInt, Int.bmod_eq_of_le (by omega) (by omega)]
    refine ⟨ρ, ?_, h, rfl, fun _ _ _ => rfl⟩
    rw [e563_271, if_pos (by omega)]
  | succ f ih =>
    intro j ρ W z h hb
    have tj : (iL (j : Int)).toInt = (j : Int) := by
      show (BitVec.ofInt 64 (j : Int)).toInt = _
      rw [BitVec.toInt_ofInt, Int.bmod_eq_of_le (by omega) (by omega)]
    have nl : ¬ x4.toInt ≤ (iL (j : Int)).toInt := by omega
    have g13 := wld_g h (k := 80) (s := 113) (by omega)
    rw [lsR_c, List.map_cons]
    have j3 : j < 100000 := by omega
    by_cases q : wg W 80 113 < 2000
    · obtain ⟨C, hC⟩ : ∃ C : Nat, C = (wg W 80 113).toNat := ⟨_, rfl⟩
      have eC : gI ρ 80 113 = (C : Int) := by omega
      have bC : 0 ≤ (C : Int) ∧ (C : Int) < 2000 := by omega
      have n2 : ¬ 2000 ≤ (C : Int) := by omega
      have hb' : 0 ≤ wg W 80 113 + 1 ∧ wg W 80 113 + 1 ≤ 2000 := by omega
      have C3 : C < 100000 := by omega
      have ww : w32 ((j : Int) + 1) = ((j + 1 : Nat) : Int) := w32_s j3
      have wC : w32 ((C : Int) + 1) = ((C + 1 : Nat) : Int) := w32_s C3
      have t := T553 (σ := ρ) (ob j (by omega))
      have ea : x2 + iL (j : Int) = adR o + BitVec.ofNat 64 (b + j) := by rw [e2, ad_s, nat_s]
      rw [← ea] at t
      have wd : wldR (sI (sI ρ 145 C (kpW (byW (byR ρ o (b + j))))) 80 113 ((C + 1 : Nat) : Int)) (wset (wset W 145 (wg W 80 113).toNat (kpW (byW (byR ρ o (b + j))))) 80 113 (wg W 80 113 + 1)) := by
        rw [← hC, show wg W 80 113 + 1 = ((C + 1 : Nat) : Int) by omega]
        exact wld_I (wld_I h)
      obtain ⟨τ, t1, t2, t3, t4'⟩ := ih (j + 1) _ _ (by omega) wd (by
        rw [wg_wset, if_pos ⟨rfl, rfl⟩]
        exact hb')
      have ls : lsR (sI (sI ρ 145 C (kpW (byW (byR ρ o (b + j))))) 80 113 ((C + 1 : Nat) : Int)) o (b + (j + 1)) f = lsR ρ o (b + j + 1) f := lsR_e (fun s => by
        have := cellR_v o
        rw [gI_sI, if_neg (by omega), gI_sI, if_neg (by omega)])
      refine ⟨τ, ?_, ?_, t3, fun k s z => ?_⟩
      · have g14 : gI (sI ρ 145 C (kpW (byW (byR ρ o (b + j))))) 80 113 = (C : Int) := by
          rw [gI_sI, if_neg (by omega)]
          exact eC
        rw [e563_271, if_neg nl, eC, if_neg n2, t]
        simp only [Option.getD_some, Option.bind_some, Option.toList_some, Option.toList_none, List.cons_append, List.nil_append, and_self, and_true, true_and, false_and, and_false, ite_self, not_true_eq_false, not_false_eq_true, reduceIte, Nat.reduceEqDiff, ab_I, ab_L, ab_R, ao_I, ao_L, ao_R, gL_sL, gI_sI, gR_sR, gI_sL, gI_sR, gL_sI, gL_sR, gR_sI, gR_sL, e563_307, g_145, bC.1, bC.2, Int.toNat_natCast, kp_by, e563_319, eC, wC, ww]
        exact t1
      · show wldR τ (traR (if wg W 80 113 < 2000 then _ else W) _)
        rw [if_pos q, ← ls]
        exact t2
      · rw [t4' k s z, gI_sI, if_neg (by omega), gI_sI, if_neg (by omega)]
    · have n2 : 2000 ≤ gI ρ 80 113 := by omega
      have ww : w32 ((j : Int) + 1) = ((j + 1 : Nat) : Int) := w32_s j3
      obtain ⟨τ, t1, t2, t3, t4'⟩ := ih (j + 1) ρ W (by omega) h hb
      refine ⟨τ, ?_, ?_, t3, t4'⟩
      · rw [e563_271, if_neg nl, if_pos n2, e563_319, ww]
        exact t1
      · show wldR τ (traR (if wg W 80 113 < 2000 then _ else W) _)
        rw [if_neg q]
        exact t2
theorem hp_6 (h : RelR σ c) (hI : invW (cW c)) (e : hpT RB RH E c 6 nx = some (k, c')) : hpo σ c 6 nx k c' := by
  unfold hpT at e
  rw [if_neg (by decide), if_neg (by decide), if_pos rfl] at e
  by_cases q : ¬ (rdR c 2).1 = 0 ∨ ¬ (1 ≤ (rdR c 2).2.toNat ∧ (rdR c 2).2.toNat ≤ 64)
  · rw [if_pos q] at e
    cases e
  · rw [if_neg q] at e
    obtain ⟨N, hN⟩ : ∃ N : Nat, N = (rdR c 2).2.toNat := ⟨_, rfl⟩
    rw [← hN] at e q
    have z2 : (rdR c 2).1 = 0 := by omega
    obtain ⟨r2, _⟩ := rd_R h (r := 2) (by decide) (by omega)
    have r2 : gL σ 146 (rpR c 2) = (rdR c 2).2 := r2.trans (enG_z z2)
    cases el : rdL RB c (rdR c 1).1 (rdR c 1).2.toNat N with
    | none =>
      rw [el] at e
      cases e
    | some L =>
      rw [el] at e
      have e : bhT c (cS c) (traR (cW c) (L.map kpW)) (0, (rdR c 2).2) nx = some (k, c') := e
      obtain ⟨ob, eL⟩ := rdL_R h _ _ _ el
      have o0 := ob 0 (by omega)
      obtain ⟨e1, k1⟩ := rd_R h (r := 1) (by decide) (by omega)
      have ea : gL σ 146 (rpR c 1) = adR (rdR c 1).1 + BitVec.ofNat 64 (rdR c 1).2.toNat := by
        rw [e1]
        show enG adR (rdR c 1) = _
        rw [enG_p (by omega), BitVec.ofNat_toNat, BitVec.setWidth_eq]
      have en : (rdR c 2).2 = BitVec.ofNat 64 N := by rw [hN, BitVec.ofNat_toNat, BitVec.setWidth_eq]
      obtain ⟨τ, t1, t2, t3, t4⟩ := L563t (hh := 6) (x6 := gL σ 146 (rpR c 3)) (x8 := gL σ 146 (rpR c 4)) (x10 := w32 (lI (lShr (gL σ 146 (rpR c 1)) 20) - 8)) ea en (by omega) ob N 0 σ (cW c) (by omega) (RelR_wld h) hI.2.2.2.1.2.1
      have lt := gL_2 t3
      rw [Nat.add_zero, ← eL] at t2
      refine hpo_b (v := (rdR c 2).2) (τ := τ) ?_ ⟨fun k s z => t4 k s (by omega), fun k s _ _ => lt k s, by rw [t3]⟩ (fun s z => t4 _ _ (by omega)) (RelR_w h (t4 _ _ (by omega)) (fun s => lt _ _) (fun s => t4 _ _ (by omega)) (fun s => t4 _ _ (by omega)) t2) enG_0.symm okSV_0 e
      rw [L563 h, e563_51]
      simp only [Option.getD_some, Option.bind_some, Option.toList_some, Option.toList_none, List.cons_append, List.nil_append, and_self, and_true, true_and, false_and, and_false, ite_self, not_true_eq_false, not_false_eq_true, reduceIte, Nat.reduceEqDiff, ab_I, ab_L, ab_R, ao_I, ao_L, ao_R, gL_sL, gI_sI, gR_sR, gI_sL, gI_sR, gL_sI, gL_sR, gR_sI, gR_sL, Int.reduceEq, if_true, if_false, r2]
      exact t1
/-! TAIL -/
theorem hp_12 (h : RelR σ c) (hI : invW (cW c)) (e : hpT RB RH E c 12 nx = some (k, c')) : hpo σ c 12 nx k c' := by
  unfold hpT at e
  rw [if_neg (by decide), if_neg (by decide), if_neg (by decide), if_neg (by decide), if_pos rfl] at e
  by_cases q : ¬ (rdR c 1) = (1, 0#64) ∨ ¬ isMap (rdR c 2) ∨ ¬ (rdR c 3).1 = 0 ∨ ¬ cN c = 1
  · rw [if_pos q] at e
    cases e
  · rw [if_neg q] at e
    have z1 : (rdR c 1) = (1, 0#64) := Decidable.byContradiction fun z => q (Or.inl z)
    have mp : isMap (rdR c 2) := Decidable.byContradiction fun z => q (Or.inr (Or.inl z))
    have z3 : (rdR c 3).1 = 0 := Decidable.byContradiction fun z => q (Or.inr (Or.inr (Or.inl z)))
    have n1 : cN c = 1 := Decidable.byContradiction fun z => q (Or.inr (Or.inr (Or.inr z)))
    obtain ⟨m, hm, em, e0⟩ := mp_R h (r := 2) (by decide) mp
    have x8 : (rdR c 1).1 = 1 := by rw [z1]
    obtain ⟨r1, _⟩ := rd_R h (r := 1) (by decide) (by omega)
    have r1 : gL σ 146 (rpR c 1) = enR (1, 0#64) := by rw [r1, z1]
    obtain ⟨r3, _⟩ := rd_R h (r := 3) (by decide) (by omega)
    have r3 : gL σ 146 (rpR c 3) = (rdR c 3).2 := r3.trans (enG_z z3)
    obtain ⟨x, hx⟩ : ∃ x, x = (rdR c 3).2 := ⟨_, rfl⟩
    have fe : RH.2.2.2.2.2.2.2.2.1 (cW c) (mapT (rdR c 2)) (rdR c 3).2 = taiR (cW c) m x := by
      rw [em, hx]
      rfl
    rw [fe] at e
    rw [← hx] at r3
    have b0 : 0 ≤ (m : Int) ∧ (m : Int) < 8 := by omega
    have wl := RelR_wld h
    have g9 := wld_g wl (k := 99) (s := m) (by omega)
    have i1 := (hI.1 m hm).1
    have s0 : MM 563 [mR (some 80), mI 12] σ = (MM 564 [mR (some 80), mI (m : Int), mL x, mL (enR (1, 0#64))] σ).bind fun q => RR (lkB tb563) (B563_364, [some (mR (some 80)), some (mI 12), some (mL (enR (1, 0#64))), none, some (mL (gL σ 146 (rpR c 2))), none, some (mL x), none, some (mL (gL σ 146 (rpR c 4))), none, some (mI (w32 (lI (lShr (enR (1, 0#64)) 20) - 8))), none, none], q.1.toList ++ [], q.2) := by
      rw [L563 h, r1, r3, e563_51]
      simp only [Option.getD_some, Option.bind_some, Option.toList_some, Option.toList_none, List.cons_append, List.nil_append, and_self, and_true, true_and, false_and, and_false, ite_self, not_true_eq_false, not_false_eq_true, reduceIte, Nat.reduceEqDiff, ab_I, ab_L, ab_R, ao_I, ao_L, ao_R, gL_sL, gI_sI, gR_sR, gI_sL, gI_sR, gL_sI, gL_sR, gR_sI, gR_sL, Int.reduceEq, if_true, if_false, M561, e561_0, e0, e563_358]
    have lt : (x < iL (wg (cW c) 99 m)) ↔ (x.toNat : Int) < wg (cW c) 99 m := by
      rw [BitVec.lt_def]
      have : (iL (wg (cW c) 99 m)).toNat = (wg (cW c) 99 m).toNat := by
        show (BitVec.ofInt 64 _).toNat = _
        rw [BitVec.toNat_ofInt]
        omega
      rw [this]
      omega
    -- no TAIL
    have nt : ∀ d : Int, d < 0 → MM 564 [mR (some 80), mI (m : Int), mL x, mL (enR (1, 0#64))] σ = RR (lkB tb564) (B564_30, [some (mR (some 80)), some (mI (m : Int)), some (mL x), none, some (mL (enR (1, 0#64))), none, none], [mI d], σ) → taiR (cW c) m x = none → hpo σ c 12 nx k c' := fun d hd t4 tn => by
      rw [tn] at e
      have e : bhT c (cS c) (cW c) (0, cAll) nx = some (k, c') := e
      refine hpo_b (v := cAll) (τ := σ) ?_ mvR_r (fun _ _ => rfl) h enG_0.symm okSV_0 e
      rw [s0, t4, e564_30, if_pos hd]
      simp only [Option.getD_some, Option.bind_some, Option.toList_some, Option.toList_none, List.cons_append, List.nil_append, and_self, and_true, true_and, false_and, and_false, ite_self, not_true_eq_false, not_false_eq_true, reduceIte, Nat.reduceEqDiff, ab_I, ab_L, ab_R, ao_I, ao_L, ao_R, gL_sL, gI_sI, gR_sR, gI_sL, gI_sR, gL_sI, gL_sR, gR_sI, gR_sL, e563_364, iL_m1]
    by_cases c1 : (x.toNat : Int) < wg (cW c) 99 m
    · have li : lI x = (x.toNat : Int) := by
        have : x = iL (x.toNat : Int) := by
          show x = BitVec.ofInt 64 (x.toNat : Int)
          rw [BitVec.ofInt_natCast, BitVec.ofNat_toNat, BitVec.setWidth_eq]
        conv => lhs; rw [this]
        exact lI_s (by omega)
      have x16 : x.toNat < 16 := by omega
      have b2 : 0 ≤ ((16 * m + x.toNat : Nat) : Int) ∧ ((16 * m + x.toNat : Nat) : Int) < 128 := by omega
      have g6 := wld_g wl (k := 106) (s := 16 * m + x.toNat) (by omega)
      have i6 := hI.2.2.2.2.2.2 m x.toNat hm x16
      have wp := wa_16 (e := x.toNat) hm (Nat.lt_trans x16 (by decide))
      have s30 : MM 564 [mR (some 80), mI (m : Int), mL x, mL (enR (1, 0#64))] σ = RR (lkB tb564) (B564_30, [some (mR (some 80)), some (mI (m : Int)), some (mL x), none, some (mL (enR (1, 0#64))), none, none], [mI (wg (cW c) 106 (16 * m + x.toNat))], σ) := by
        simp only [M564, e564_0, Option.getD_some, Option.bind_some, Option.toList_some, Option.toList_none, List.cons_append, List.nil_append, and_self, and_true, true_and, false_and, and_false, ite_self, not_true_eq_false, not_false_eq_true, reduceIte, Nat.reduceEqDiff, ab_I, ab_L, ab_R, ao_I, ao_L, ao_R, gL_sL, gI_sI, gR_sR, gI_sL, gI_sR, gL_sI, gL_sR, gR_sI, gR_sL, g_99, b0.1, b0.2, Int.toNat_natCast, g9, T389, b2_yes (lt.mpr c1)]
        rw [e564_11]
        simp only [Option.getD_some, Option.bind_some, Option.toList_some, Option.toList_none, List.cons_append, List.nil_append, and_self, and_true, true_and, false_and, and_false, ite_self, not_true_eq_false, not_false_eq_true, reduceIte, Nat.reduceEqDiff, ab_I, ab_L, ab_R, ao_I, ao_L, ao_R, gL_sL, gI_sI, gR_sR, gI_sL, gI_sR, gL_sI, gL_sR, gR_sI, gR_sL, show ¬ (1 : Int) = 0 by decide, if_false, li, wp, g_106, b2.1, b2.2, Int.toNat_natCast, g6]
      by_cases c2 : wg (cW c) 106 (16 * m + x.toNat) < 0
      · refine nt _ c2 s30 ?_
        unfold taiR
        rw [if_neg (not_not_intro c1), if_pos (Or.inl c2)]
      · obtain ⟨C, hC⟩ : ∃ C : Nat, C = (wg (cW c) 106 (16 * m + x.toNat)).toNat := ⟨_, rfl⟩
        have eC : wg (cW c) 106 (16 * m + x.toNat) = (C : Int) := by omega
        have bC : 0 ≤ (C : Int) ∧ (C : Int) < 8 := by omega
        rw [eC] at s30
        have g85 := wld_g wl (k := 85) (s := C) (by omega)
        have g10 := wld_g wl (k := 80) (s := 110) (by omega)
        have n0 : ¬ (C : Int) < 0 := by omega
        by_cases c3 : wg (cW c) 85 C = 0 ∨ wg (cW c) 80 110 = 8
        · have tn : taiR (cW c) m x = none := by
            unfold taiR
            rw [if_neg (not_not_intro c1), if_pos (by rw [eC, Int.toNat_natCast]; exact Or.inr c3)]
          rw [tn] at e
          have e : bhT c (cS c) (cW c) (0, cAll) nx = some (k, c') := e
          refine hpo_b (v := cAll) (τ := σ) ?_ mvR_r (fun _ _ => rfl) h enG_0.symm okSV_0 e
          rw [s0, s30, e564_30, if_neg n0]
          by_cases c4 : wg (cW c) 85 C = 0
          · simp only [Option.getD_some, Option.bind_some, Option.toList_some, Option.toList_none, List.cons_append, List.nil_append, and_self, and_true, true_and, false_and, and_false, ite_self, not_true_eq_false, not_false_eq_true, reduceIte, Nat.reduceEqDiff, ab_I, ab_L, ab_R, ao_I, ao_L, ao_R, gL_sL, gI_sI, gR_sR, gI_sL, gI_sR, gL_sI, gL_sR, gR_sI, gR_sL, g_85, bC.1, bC.2, Int.toNat_natCast, g85, c4, if_true, e563_364, iL_m1]
          · have c5 := c3.resolve_left c4
            simp only [Option.getD_some, Option.bind_some, Option.toList_some, Option.toList_none, List.cons_append, List.nil_append, and_self, and_true, true_and, false_and, and_false, ite_self, not_true_eq_false, not_false_eq_true, reduceIte, Nat.reduceEqDiff, ab_I, ab_L, ab_R, ao_I, ao_L, ao_R, gL_sL, gI_sI, gR_sR, gI_sL, gI_sR, gL_sI, gL_sR, gR_sI, gR_sL, g_85, bC.1, bC.2, Int.toNat_natCast, g85, c4, if_false, g10, c5, not_true_eq_false, e563_364, iL_m1]
        · have c4 : ¬ wg (cW c) 85 C = 0 := fun z => c3 (Or.inl z)
          have c5 : ¬ wg (cW c) 80 110 = 8 := fun z => c3 (Or.inr z)
          have ts : taiR (cW c) m x = some (wset (wset (cW c) 80 110 (wg (cW c) 80 110 + 1)) 80 122 (C : Int)) := by
            unfold taiR
            rw [if_neg (not_not_intro c1), if_neg (by rw [eC, Int.toNat_natCast]; omega), eC]
          rw [ts] at e
          obtain ⟨ek, ec⟩ := Prod.mk.inj (Option.some.inj e)
          have i10 := hI.2.2.2.1.2.2
          have w10 : w32 (wg (cW c) 80 110 + 1) = wg (cW c) 80 110 + 1 := w32_i (by omega) (by omega)
          obtain ⟨υ, hυ⟩ : ∃ υ, υ = sI (sI (sI σ 80 110 (wg (cW c) 80 110 + 1)) 80 122 (C : Int)) 80 123 0 := ⟨_, rfl⟩
          have gu : ∀ k s, gI υ k s = if k = 80 ∧ s = 123 then 0 else if k = 80 ∧ s = 122 then (C : Int) else if k = 80 ∧ s = 110 then wg (cW c) 80 110 + 1 else gI σ k s := fun k s => by
            rw [hυ, gI_sI, gI_sI, gI_sI]
          have g17 : gI υ 80 117 = ((0 : Nat) : Int) := by
            rw [gu, if_neg (by omega), if_neg (by omega), if_neg (by omega)]
            have := (relF h).1
            rw [this, n1]
          obtain ⟨τ, t5, p1, p2, p3, p4, p5⟩ := T552 g17 (by decide)
          have gt : ∀ k s, gI τ k s = gI υ k s := fun k s => by unfold gI; rw [p3]
          have lu : ∀ k s, gL υ k s = gL σ k s := fun k s => by rw [hυ]; rfl
          have wn : wldR υ (wset (wset (cW c) 80 110 (wg (cW c) 80 110 + 1)) 80 122 (C : Int)) := by
            rw [hυ]
            exact wld_q (wld_I (wld_I wl)) (fun k s p => by rw [gI_sI, if_neg (by omega)]) rfl rfl
          refine ⟨0#64, sL τ 146 1 (enR (1, 0#64)), ?_, ⟨fun k s z => ?_, fun k s z _ => ?_, ?_⟩, ?_, Or.inr ⟨ek.symm, n1, ?_, ?_, ?_, ?_⟩⟩
          · rw [s0, s30, e564_30, if_neg n0]
            simp only [Option.getD_some, Option.bind_some, Option.toList_some, Option.toList_none, List.cons_append, List.nil_append, and_self, and_true, true_and, false_and, and_false, ite_self, not_true_eq_false, not_false_eq_true, reduceIte, Nat.reduceEqDiff, ab_I, ab_L, ab_R, ao_I, ao_L, ao_R, gL_sL, gI_sI, gR_sR, gI_sL, gI_sR, gL_sI, gL_sR, gR_sI, gR_sL, g_85, bC.1, bC.2, Int.toNat_natCast, g85, c4, if_false, g10, c5, not_false_eq_true, if_true, w10]
            rw [e564_81, ← hυ, t5]
            simp only [Option.getD_some, Option.bind_some, Option.toList_some, Option.toList_none, List.cons_append, List.nil_append, and_self, and_true, true_and, false_and, and_false, ite_self, not_true_eq_false, not_false_eq_true, reduceIte, Nat.reduceEqDiff, ab_I, ab_L, ab_R, ao_I, ao_L, ao_R, gL_sL, gI_sI, gR_sR, gI_sL, gI_sR, gL_sI, gL_sR, gR_sI, gR_sL, e564_85, g_146, Int.reduceLE, Int.reduceLT, e563_364]
            rfl
          · rw [gI_sL, gt, gu, if_neg (by omega), if_neg (by omega), if_neg (by omega)]
          · rw [gL_sL, if_neg (by omega), p2 k s z, lu]
          · show τ.2.2 = _
            rw [p4, hυ]
            rfl
          · rw [gI_sL, gt, gu, if_neg (by omega), if_neg (by omega), if_neg (by omega)]
          · rw [gI_sL, gt, gu, if_pos ⟨rfl, rfl⟩]
          · rw [gI_sL, gt, gu, if_neg (by omega), if_pos ⟨rfl, rfl⟩, ← ec]
            show (C : Int) = wg (wset _ 80 122 (C : Int)) 80 122
            rw [wg_wset, if_pos ⟨rfl, rfl⟩]
          · rw [← ec]
            refine ⟨⟨⟨Nat.le_refl 1, (show 1 ≤ 4 by decide)⟩, ?_⟩, ⟨fun f r hf hr => ?_, fun f hf => ?_⟩, fun f b hf hb => ⟨fun z => absurd z (show ¬ (0 : Nat) = 1 by decide), fun z => absurd z (show ¬ 2 ≤ (0 : Nat) by decide)⟩, fun f f1 f2 => ?_, ?_⟩
            · show gI (sL τ 146 1 (enR (1, 0#64))) 80 117 = ((1 : Nat) : Int) - 1
              rw [gI_sL, gt, g17]
              rfl
            · have hf : f < 1 := hf
              show vlR _ (11 * f + r) (if f = 0 ∧ r = 1 then (1, 0#64) else nilR)
              by_cases q1 : f = 0 ∧ r = 1
              · rw [if_pos q1]
                refine ⟨⟨fun _ => rfl, fun z => absurd z (show ¬ 8 ≤ (1 : Nat) by decide), by decide⟩, fun _ => ?_⟩
                rw [gL_sL, if_pos ⟨rfl, by omega⟩]
              · rw [if_neg q1]
                exact ⟨okSV_n, fun z => absurd (show nilR.1 = 6 from rfl) z⟩
            · have hf : f < 1 := hf
              have f0 : f = 0 := by omega
              subst f0
              rw [gL_sL, if_neg (by omega)]
              exact p5
            · have f2 : f < 1 := f2
              omega
            · refine wld_q wn (fun k s p => by rw [gI_sL, gt]) ?_ ?_
              · rw [gL_sL, if_neg (by omega), p2 _ _ (by decide)]
              · rw [gL_sL, if_neg (by omega), p2 _ _ (by decide)]
          · rw [← ec]
            have g22 : wg (wset (wset (cW c) 80 110 (wg (cW c) 80 110 + 1)) 80 122 (C : Int)) 80 122 = (C : Int) := by rw [wg_wset, if_pos ⟨rfl, rfl⟩]
            refine ⟨?_, ?_, rfl⟩
            · show 0 ≤ wg (wset (wset (cW c) 80 110 (wg (cW c) 80 110 + 1)) 80 122 (C : Int)) 80 122 ∧ wg (wset (wset (cW c) 80 110 (wg (cW c) 80 110 + 1)) 80 122 (C : Int)) 80 122 < 8
              rw [g22]
              exact bC
            · show ¬ wg (wset (wset (cW c) 80 110 (wg (cW c) 80 110 + 1)) 80 122 (C : Int)) 85 (wg (wset (wset (cW c) 80 110 (wg (cW c) 80 110 + 1)) 80 122 (C : Int)) 80 122).toNat = 0
              rw [g22, Int.toNat_natCast, wg_wset_o (by decide), wg_wset_o (by decide)]
              exact c4
    · have tn : taiR (cW c) m x = none := by
        unfold taiR
        rw [if_pos c1]
      refine nt (-1) (by decide) ?_ tn
      simp only [M564, e564_0, Option.getD_some, Option.bind_some, Option.toList_some, Option.toList_none, List.cons_append, List.nil_append, and_self, and_true, true_and, false_and, and_false, ite_self, not_true_eq_false, not_false_eq_true, reduceIte, Nat.reduceEqDiff, ab_I, ab_L, ab_R, ao_I, ao_L, ao_R, gL_sL, gI_sI, gR_sR, gI_sL, gI_sR, gL_sI, gL_sR, gR_sI, gR_sL, g_99, b0.1, b0.2, Int.toNat_natCast, g9, T389, b2_no (fun z => c1 (lt.mp z))]
      rw [e564_11]
      simp only [Option.getD_some, Option.bind_some, Option.toList_some, Option.toList_none, List.cons_append, List.nil_append, and_self, and_true, true_and, false_and, and_false, ite_self, not_true_eq_false, not_false_eq_true, reduceIte, Nat.reduceEqDiff, ab_I, ab_L, ab_R, ao_I, ao_L, ao_R, gL_sL, gI_sI, gR_sR, gI_sL, gI_sR, gL_sI, gL_sR, gR_sI, gR_sL, if_true]
end RHLP
