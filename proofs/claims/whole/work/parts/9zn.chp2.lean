/-! ===== the class's runs: all steps, traces, chances, records ===== -/
section CHP2
variable {σ τ ρ : MS} {W V : WR} {c c' d : TC WR} {m n p q p0 e j i z N C r o k : Nat} {L : List B64} {y nx hh : Int} {E : EV} {φ ψ : Nat → Nat} {x v : B64} {S : Nat → Nat → MB} {u : SV}
theorem hp_5C (h : RelC σ φ c) (e : hpT RB RH E c 5 nx = some (k, c')) : hpC σ φ c 5 nx k c' := by
  unfold hpT at e
  rw [if_neg (by decide), if_pos rfl] at e
  have e : bhT c (cS c) (cW c) (0, (cW c).2.2) nx = some (k, c') := e
  have wl := h.2.2.2.2.2.2.2.2.2.2.2.2.2
  refine hpC_b (ψ := φ) (v := gL σ 71 16) rfl rfl ?_ mvC_r rfl rfl h (wl.2.symm.trans enG_0.symm) okSV_0 lv_0 e
  rw [M197, e197_0]
  simp only [show ¬ (5 : Int) = 1 by decide, show ¬ (5 : Int) = 2 by decide, show ¬ (5 : Int) = 3 by decide, if_true, if_false]
/-- the rest, where chances went on -/
theorem hp_7C (h : RelC σ φ c) (e : hpT RB RH E c 7 nx = some (k, c')) : hpC σ φ c 7 nx k c' := by
  unfold hpT at e
  rw [if_neg (by decide), if_neg (by decide), if_neg (by decide), if_pos rfl] at e
  have e : bhT c (cS c) ((cW c).1, chaX (cW c).2.1, (cW c).2.2) (0, chaX (cW c).2.1 >>> 32) nx = some (k, c') := e
  have h' := h
  obtain ⟨_, _, _, _, _, hM, k4, k5, k6, k7, k8, k9, k10, k11⟩ := h'
  have xe : gL σ 71 13 * iL 6364136223846793005 + iL 1442695040888963407 = chaX (cW c).2.1 := by
    rw [k11.1]
    rfl
  obtain ⟨X, hX⟩ : ∃ X, X = chaX (cW c).2.1 := ⟨_, rfl⟩
  rw [← hX] at e xe
  obtain ⟨τ, hτ⟩ : ∃ τ, τ = sL σ 71 13 (X) := ⟨_, rfl⟩
  have l13 : gL τ 71 13 = X := by rw [hτ, gL_sL, if_pos ⟨rfl, rfl⟩]
  have ln : ∀ k s, ¬ (k = 71 ∧ s = 13) → gL τ k s = gL σ k s := fun k s z => by rw [hτ, gL_sL, if_neg z]
  have gn : ∀ k s, gI τ k s = gI σ k s := fun k s => by rw [hτ]; rfl
  have wt : wldC τ φ ((cW c).1, X, (cW c).2.2) := ⟨wldM_r hM (fun k s _ => gn _ _) (fun s _ => gn _ _) (fun _ _ _ => rfl), wcV_q k4 (fun s _ => gn _ _) (fun _ => rfl), fun s z => by rw [gn]; exact k5 s z, wcZ_q k6 (fun s _ => gn _ _) (fun _ _ => rfl), wcG_q k7 (fun s => gn _ _) (fun _ => rfl), wcX_q k8 (fun s => gn _ _) (fun _ => rfl) rfl, wcC_q k9 (fun s _ => gn _ _) rfl, wcY_q k10 (fun s _ => gn _ _) (fun _ _ => rfl), l13.symm, k11.2.trans (ln _ _ (by omega)).symm⟩
  have rel : RelC τ φ (cP c, cN c, cR c, cS c, cB c, ((cW c).1, X, (cW c).2.2)) := RelC_w h (gn _ _) (fun k s z => ln _ _ (by omega)) (fun s => gn _ _) (fun s _ _ => gn _ _) (fun i _ z => z) wt
  have lu : lUsh (X) 32 = X >>> 32 := rfl
  refine hpC_b (ψ := φ) (v := X >>> 32) rfl rfl ?_ ⟨fun k s _ => gn k s, fun k s _ z => ln _ _ (by omega), by rw [hτ]; rfl⟩ (gn _ _) (gn _ _) rel enG_0.symm okSV_0 lv_0 e
  rw [M197, e197_0]
  simp only [show ¬ (7 : Int) = 1 by decide, show ¬ (7 : Int) = 2 by decide, show ¬ (7 : Int) = 3 by decide, show ¬ (7 : Int) = 5 by decide, show ¬ (7 : Int) = 6 by decide, if_true, if_false, xe, ← hτ, l13, lu]
/-- a trace's bytes -/
theorem tra_e : ∀ (l : List Int) (W : WR) (T : Nat), wg W 80 113 = (T : Int) → T ≤ 2000 → (∀ k s, wg (traR W l) k s = if k = 145 ∧ T ≤ s ∧ s < T + l.length ∧ s < 2000 then l.getD (s - T) 0 else if k = 80 ∧ s = 113 then ((min (T + l.length) 2000 : Nat) : Int) else wg W k s) ∧ (traR W l).2 = W.2 := by
  intro l
  induction l with
  | nil =>
    intro W T hT h2
    refine ⟨fun k s => ?_, rfl⟩
    show wg W k s = _
    rw [if_neg (by rw [List.length_nil]; omega)]
    by_cases q : k = 80 ∧ s = 113
    · rw [if_pos q, q.1, q.2, hT, List.length_nil]
      omega
    · rw [if_neg q]
  | cons b l ih =>
    intro W T hT h2
    unfold traR
    by_cases lt : wg W 80 113 < 2000
    · rw [if_pos lt, hT]
      have e1 : wg (wset (wset W 145 ((T : Int)).toNat b) 80 113 ((T : Int) + 1)) 80 113 = ((T + 1 : Nat) : Int) := by
        rw [wg_wset, if_pos ⟨rfl, rfl⟩]
        rfl
      obtain ⟨z, z2⟩ := ih (wset (wset W 145 ((T : Int)).toNat b) 80 113 ((T : Int) + 1)) (T + 1) e1 (by omega)
      refine ⟨fun k s => ?_, z2.trans rfl⟩
      rw [z, List.length_cons, wg_wset, wg_wset, Int.toNat_natCast]
      by_cases q1 : k = 145 ∧ T ≤ s ∧ s < T + (l.length + 1) ∧ s < 2000
      · rw [if_pos q1]
        by_cases q2 : s = T
        · rw [if_neg (by omega), if_neg (by omega), if_neg (by omega), if_pos ⟨q1.1, q2⟩, q2, Nat.sub_self]
          rfl
        · rw [if_pos ⟨q1.1, by omega, by omega, by omega⟩, show s - T = (s - (T + 1)) + 1 by omega]
          rfl
      · rw [if_neg q1, if_neg (by omega)]
        by_cases q3 : k = 80 ∧ s = 113
        · rw [if_pos q3, if_pos q3]
          omega
        · rw [if_neg q3, if_neg q3, if_neg q3, if_neg (by omega)]
    · rw [if_neg lt]
      have eT : T = 2000 := by omega
      obtain ⟨z, z2⟩ := ih W T hT h2
      refine ⟨fun k s => ?_, z2⟩
      rw [z, List.length_cons, if_neg (show ¬ (k = 145 ∧ T ≤ s ∧ s < T + l.length ∧ s < 2000) by omega), if_neg (show ¬ (k = 145 ∧ T ≤ s ∧ s < T + (l.length + 1) ∧ s < 2000) by omega)]
      by_cases q3 : k = 80 ∧ s = 113
      · rw [if_pos q3, if_pos q3]
        omega
      · rw [if_neg q3, if_neg q3]
theorem T572C (a b : B64) : MM 572 [mL a, mL b] σ = some (some (mL (if b.toInt < a.toInt then b else a)), σ) := by
  rw [M572, e572_0]
  by_cases q : b.toInt < a.toInt
  · rw [if_pos q, if_pos q]
  · rw [if_neg q, if_neg q]
theorem hp_6C (h : RelC σ φ c) (hb : bOk σ) (hI : invW (cW c)) (e : hpT RB RH E c 6 nx = some (k, c')) : hpC σ φ c 6 nx k c' := by
  unfold hpT at e
  rw [if_neg (by decide), if_neg (by decide), if_pos rfl] at e
  by_cases g0 : ¬ (rdR c 2).1 = 0 ∨ ¬ (1 ≤ (rdR c 2).2.toNat ∧ (rdR c 2).2.toNat ≤ 64)
  · rw [if_pos g0] at e
    cases e
  · rw [if_neg g0] at e
    have z2 : (rdR c 2).1 = 0 := Decidable.byContradiction fun z => g0 (Or.inl z)
    have n64 : 1 ≤ (rdR c 2).2.toNat ∧ (rdR c 2).2.toNat ≤ 64 := Decidable.byContradiction fun z => g0 (Or.inr z)
    obtain ⟨r2, _⟩ := rd_C h (r := 2) (by decide) (by omega)
    have r2 : gL σ 76 2 = (rdR c 2).2 := r2.trans (enG_z z2)
    obtain ⟨N, hN⟩ : ∃ N : Nat, N = (rdR c 2).2.toNat := ⟨_, rfl⟩
    have e2 : (rdR c 2).2 = iL (N : Int) := by
      rw [hN, ← iLnat, BitVec.ofNat_toNat, BitVec.setWidth_eq]
    rw [← hN] at e n64
    cases el : rdL RB c (rdR c 1).1 (rdR c 1).2.toNat N with
    | none =>
      rw [el] at e
      cases e
    | some L =>
      rw [el] at e
      have e : bhT c (cS c) (traR (cW c) (L.map kpW)) (0, (rdR c 2).2) nx = some (k, c') := e
      obtain ⟨p, hp, r1, hL⟩ := ag_C h (r := 1) (by decide) n64.1 el
      have h' := h
      obtain ⟨_, _, _, _, _, hM, k4, k5, k6, k7, k8, k9, k10, k11⟩ := h'
      have i3 := hI.2.2.2.1.2.1
      obtain ⟨T, hT⟩ : ∃ T : Nat, T = (wg (cW c) 80 113).toNat := ⟨_, rfl⟩
      have eT : wg (cW c) 80 113 = (T : Int) := by omega
      have gT : gI σ 71 18 = (T : Int) := k6.2.2.1.symm.trans eT
      obtain ⟨v, v2⟩ := tra_e (L.map kpW) (cW c) T eT (by omega)
      rw [List.length_map, hL, rm_len] at v
      obtain ⟨F, hF⟩ : ∃ F : Nat, F = min N (2000 - T) := ⟨_, rfl⟩
      obtain ⟨τ, hτ⟩ : ∃ τ, τ = sI (cpI σ 27 (p : Int) 79 (T : Int) (F : Int)) 71 18 ((T + F : Nat) : Int) := ⟨_, rfl⟩
      have g : ∀ k s, gI τ k s = if k = 71 ∧ s = 18 then ((T + F : Nat) : Int) else if k = 79 ∧ T ≤ s ∧ s < T + F then gI σ 27 (s - T + p) else gI σ k s := fun k s => by
        rw [hτ, gI_sI, cpI_p]
      have gn : ∀ k s, ¬ (k = 79 ∨ (k = 71 ∧ s = 18)) → gI τ k s = gI σ k s := fun k s z => by rw [g, if_neg (by omega), if_neg (by omega)]
      have vn : ∀ k s, ¬ (k = 145 ∨ (k = 80 ∧ s = 113)) → wg (traR (cW c) ((rmC σ p N).map kpW)) k s = wg (cW c) k s := fun k s z => by rw [v, if_neg (by omega), if_neg (by omega)]
      have g2 : τ.2 = σ.2 := by rw [hτ]; rfl
      have lg := gL_2 g2
      rw [hL] at e v2
      have wt : wldC τ φ (traR (cW c) ((rmC σ p N).map kpW)) := by
        refine ⟨wldM_r hM (fun k s _ => gn _ _ (by omega)) (fun s _ => gn _ _ (by omega)) (fun _ _ _ => vn _ _ (by omega)), wcV_q k4 (fun s _ => gn _ _ (by omega)) (fun _ => vn _ _ (by omega)), fun s z => ?_, ⟨?_, ?_, ?_, ?_, ?_⟩, wcG_q k7 (fun s => gn _ _ (by omega)) (fun _ => vn _ _ (by omega)), fun s z => ?_, wcC_q k9 (fun s _ => gn _ _ (by omega)) (vn _ _ (by omega)), wcY_q k10 (fun s _ => gn _ _ (by omega)) (fun s _ => vn _ _ (by omega)), wcL_q k11 (lg _ _) (lg _ _) v2⟩
        · rw [vn _ _ (by omega)] at z
          rw [vn _ _ (by omega), gn _ _ (by omega)]
          exact k5 s z
        · rw [vn _ _ (by omega), gn _ _ (by omega)]
          exact k6.1
        · rw [vn _ _ (by omega), gn _ _ (by omega)]
          exact k6.2.1
        · rw [v, if_neg (by omega), if_pos ⟨rfl, rfl⟩, g, if_pos ⟨rfl, rfl⟩]
          omega
        · rw [vn _ _ (by omega), gn _ _ (by omega)]
          exact k6.2.2.2.1
        · rw [vn _ _ (by omega), gn _ _ (by omega)]
          exact k6.2.2.2.2
        · rw [v 80 113, if_neg (by omega), if_pos ⟨rfl, rfl⟩] at z
          by_cases q : T ≤ s
          · rw [v, if_pos ⟨rfl, q, by omega, by omega⟩, g, if_neg (by omega), if_pos ⟨rfl, q, by omega⟩, rm_get (by omega) hb]
            exact congrArg (gI σ 27) (by omega)
          · rw [v, if_neg (by omega), if_neg (by omega), g, if_neg (by omega), if_neg (by omega)]
            exact k8 s (by omega)
      have rel : RelC τ φ (cP c, cN c, cR c, cS c, cB c, traR (cW c) ((rmC σ p N).map kpW)) := RelC_w h (gn _ _ (by omega)) (fun k s _ => lg k s) (fun s => gn _ _ (by omega)) (fun s _ _ => gn _ _ (by omega)) (fun i _ z => by rw [vn _ _ (by omega)]; exact z) wt
      have t87 := T187 (σ := σ) hp
      have tN : (iL (N : Int)).toInt = (N : Int) := iLt (by omega) (by omega)
      have tF : (iL (2000 - (T : Int))).toInt = 2000 - (T : Int) := iLt (by omega) (by omega)
      have s1 : -2147483648 ≤ 2000 - (T : Int) ∧ 2000 - (T : Int) < 2147483648 := by omega
      have sN : -2147483648 ≤ (N : Int) ∧ (N : Int) < 2147483648 := by omega
      have sF' : -2147483648 ≤ (T : Int) + (F : Int) ∧ (T : Int) + (F : Int) < 2147483648 := by omega
      have eF : (T : Int) + (F : Int) = ((T + F : Nat) : Int) := by omega
      have lF : lI (if (iL (2000 - (T : Int))).toInt < (iL (N : Int)).toInt then iL (2000 - (T : Int)) else iL (N : Int)) = (F : Int) := by
        rw [tN, tF]
        by_cases q : 2000 - (T : Int) < (N : Int)
        · rw [if_pos q, lI_s s1]
          omega
        · rw [if_neg q, lI_s sN]
          omega
      have p0 : ¬ (p : Int) < 0 := by omega
      have ac0 : ac σ 1 27 79 (p : Int) (T : Int) (F : Int) := by
        have q1 : kd σ 27 = (1, 25364) := rfl
        have q2 : kd σ 79 = (1, 2000) := rfl
        unfold ac
        rw [q1, q2]
        refine ⟨⟨rfl, rfl⟩, by omega, ?_⟩
        dsimp only
        omega
      have is1 : Option.isSome (some (27 : Nat)) = true := rfl
      have is2 : Option.isSome (some (79 : Nat)) = true := rfl
      have w1 : w32 (2000 - (T : Int)) = 2000 - (T : Int) := w32_i s1.1 s1.2
      have w2 : w32 ((T : Int) + (F : Int)) = ((T + F : Nat) : Int) := by rw [w32_i sF'.1 sF'.2, eF]
      have g18 : gI (cpI σ 27 (p : Int) 79 (T : Int) (F : Int)) 71 18 = (T : Int) := by rw [cpI_o (by decide)]; exact gT
      have t0 : MM 200 [mR (some 71), mL (iL (1048576 + (p : Int))), mL (iL (N : Int))] σ = some (some (mL (iL (N : Int))), τ) := by
        rw [M200, e200_0, t87]
        simp only [Option.getD_some, Option.bind_some, Option.toList_some, Option.toList_none, List.cons_append, List.nil_append, and_self, and_true, true_and, false_and, and_false, ite_self, not_true_eq_false, not_false_eq_true, reduceIte, Nat.reduceEqDiff, ab_I, ab_L, ab_R, ao_I, ao_L, ao_R, gL_sL, gI_sI, gR_sR, gI_sL, gI_sR, gL_sI, gL_sR, gR_sI, gR_sL]
        rw [e200_5]
        simp only [p0, if_false, gT, w1, T572C, Option.getD_some, Option.bind_some, Option.toList_some, Option.toList_none, List.cons_append, List.nil_append, and_self, and_true, true_and, false_and, and_false, ite_self, not_true_eq_false, not_false_eq_true, reduceIte, Nat.reduceEqDiff, ab_I, ab_L, ab_R, ao_I, ao_L, ao_R, gL_sL, gI_sI, gR_sR, gI_sL, gI_sR, gL_sI, gL_sR, gR_sI, gR_sL]
        rw [e200_25]
        simp only [is1, is2, gT, lF, Option.getD_some, Option.bind_some, Option.toList_some, Option.toList_none, List.cons_append, List.nil_append, and_self, and_true, true_and, false_and, and_false, ite_self, not_true_eq_false, not_false_eq_true, reduceIte, Nat.reduceEqDiff, ab_I, ab_L, ab_R, ao_I, ao_L, ao_R, gL_sL, gI_sI, gR_sR, gI_sL, gI_sR, gL_sI, gL_sR, gR_sI, gR_sL, eq_true ac0, if_true, g18, w2, ← hτ]
      have i1 : (1 : Int).toNat = 1 := rfl
      have i2 : (2 : Int).toNat = 2 := rfl
      refine hpC_b (ψ := φ) (v := iL (N : Int)) rfl rfl ?_ ⟨fun k s z => gn k s (by omega), fun k s _ _ => lg k s, by rw [g2]⟩ (gn _ _ (by omega)) (gn _ _ (by omega)) rel (by rw [e2]; exact enG_0.symm) okSV_0 lv_0 e
      rw [M197, e197_0]
      simp only [show ¬ (6 : Int) = 1 by decide, show ¬ (6 : Int) = 2 by decide, show ¬ (6 : Int) = 3 by decide, show ¬ (6 : Int) = 5 by decide, if_true, if_false, Option.getD_some, Option.bind_some, Option.toList_some, Option.toList_none, List.cons_append, List.nil_append, and_self, and_true, true_and, false_and, and_false, ite_self, not_true_eq_false, not_false_eq_true, reduceIte, Nat.reduceEqDiff, ab_I, ab_L, ab_R, ao_I, ao_L, ao_R, gL_sL, gI_sI, gR_sR, gI_sL, gI_sR, gL_sI, gL_sR, gR_sI, gR_sL, g_76, Int.reduceLE, Int.reduceLT, i1, i2, r1, r2, e2, t0, e197_135]
/-- the map of a number, of a kind -/
theorem T198 (C : CEO σ E) (hm : m < 8) (hk : 0 ≤ E.1 m ∧ E.1 m = y) : MM 198 [mR (some 71), mL (iL ((m : Int) + 1)), mI y] σ = some (some (mI (m : Int)), σ) := by
  have t1 : (iL ((m : Int) + 1)).toInt = (m : Int) + 1 := iLt (by omega) (by omega)
  have z1 : (BitVec.ofNat 64 1).toInt = 1 := by decide
  have z8 : (iL 8).toInt = 8 := by decide
  have n1 : ¬ (m : Int) + 1 < 1 := by omega
  have n2 : (m : Int) + 1 ≤ 8 := by omega
  have l1 : lI (iL ((m : Int) + 1)) = (m : Int) + 1 := lI_s (by omega)
  have w1 : w32 ((m : Int) + 1 - 1) = (m : Int) := by
    rw [w32_i (by omega) (by omega)]
    omega
  have t45 := T45 (c := y) C hm
  rw [b2_yes hk] at t45
  have n0 : ¬ (1 : Int) = 0 := by decide
  rw [M198, e198_0]
  simp only [t1, z1, z8, n1, n2, if_true, if_false, l1, w1]
  rw [e198_22, t45]
  simp only [Option.getD_some, Option.bind_some, Option.toList_some, Option.toList_none, List.cons_append, List.nil_append, and_self, and_true, true_and, false_and, and_false, ite_self, not_true_eq_false, not_false_eq_true, reduceIte, Nat.reduceEqDiff, ab_I, ab_L, ab_R, ao_I, ao_L, ao_R, gL_sL, gI_sI, gR_sR, gI_sL, gI_sR, gL_sI, gL_sR, gR_sI, gR_sL]
  rw [e198_34]
  simp only [n0, if_false]
theorem hp_131C (h : RelC σ φ c) (hI : invW (cW c)) (C : CEO σ E) (hK : hpK RB E c 131) (e : hpT RB RH E c 131 nx = some (k, c')) : hpC σ φ c 131 nx k c' := by
  unfold hpT at e
  rw [if_neg (by decide), if_neg (by decide), if_neg (by decide), if_neg (by decide), if_neg (by decide), if_neg (by decide), if_neg (by decide), if_pos rfl] at e
  have hK := hK.2.2 rfl
  by_cases q : ¬ isMap (rdR c 1) ∨ ¬ ((rdR c 2).1 = 0 ∧ 1 ≤ (rdR c 2).2.toInt ∧ (rdR c 2).2.toInt ≤ 64)
  · rw [if_pos q] at e
    cases e
  · rw [if_neg q] at e
    have mp : isMap (rdR c 1) := Decidable.byContradiction fun z => q (Or.inl z)
    have z2 : (rdR c 2).1 = 0 ∧ 1 ≤ (rdR c 2).2.toInt ∧ (rdR c 2).2.toInt ≤ 64 := Decidable.byContradiction fun z => q (Or.inr z)
    obtain ⟨m, hm, em, r1⟩ := mp_C h (r := 1) (by decide) mp
    rw [em, Int.toNat_natCast] at hK
    obtain ⟨r2, _⟩ := rd_C h (r := 2) (by decide) (by omega)
    have r2 : gL σ 76 2 = (rdR c 2).2 := r2.trans (enG_z z2.1)
    obtain ⟨y, hy⟩ : ∃ y, y = (rdR c 2).2.toInt := ⟨_, rfl⟩
    have ey : (rdR c 2).2 = iL y := by
      rw [hy]
      exact BitVec.ofInt_toInt.symm
    have l2 : lI (iL y) = y := lI_s (by omega)
    have t2 : (iL y).toInt = y := iLt (by omega) (by omega)
    rw [em, ← hy] at e
    have e : bhT c (cS c) (recR (cW c) (m : Int) y).1 (match (recR (cW c) (m : Int) y).2 with
      | none => (0, 0#64)
      | some i => (300 + i, 0#64)) nx = some (k, c') := e
    have wl := h.2.2.2.2.2
    have wl' := wl
    obtain ⟨⟨hM, hH, hJ⟩, hA⟩ := wl'
    obtain ⟨⟨c1, c2, _⟩, _⟩ := hM m hm
    obtain ⟨_, _, q3, q4⟩ := C m hm
    have nz : ¬ gI σ 29 m = 0 := fun z => by have := q3 z; omega
    obtain ⟨τ, ψ, v, t, wt, hψ, g2, gt, res⟩ := rec_C (y := y) wl hI hm (by rw [c2, ← (q4 nz).1]; exact hK.1) (by rw [c1]; exact nz) (by
      obtain ⟨i, i1, i2⟩ := hK.2
      exact ⟨i, i1, Decidable.byContradiction fun z => i2 (decide_eq_true z)⟩) (by omega)
    have lg := gL_2 g2
    have rel0 : RelC τ φ (cP c, cN c, cR c, cS c, cB c, cW c) → True := fun _ => trivial
    have t198 := T198 (y := 3) C hm ⟨by omega, hK.1⟩
    have i1 : (1 : Int).toNat = 1 := rfl
    have i2 : (2 : Int).toNat = 2 := rfl
    have m0 : ¬ (m : Int) < 0 := by omega
    have y1 : ¬ y < 1 := by omega
    have y2 : y ≤ 64 := by omega
    have z1 : (BitVec.ofNat 64 1).toInt = 1 := by decide
    have z64 : (iL 64).toInt = 64 := by decide
    have s0 : MM 204 [mR (some 71)] σ = RR (lkB tb204) (B204_49, [some (mR (some 71)), some (mI (m : Int)), some (mL (iL y)), none, none], [mI v], τ) := by
      rw [M204, e204_0]
      simp only [Option.getD_some, Option.bind_some, Option.toList_some, Option.toList_none, List.cons_append, List.nil_append, and_self, and_true, true_and, false_and, and_false, ite_self, not_true_eq_false, not_false_eq_true, reduceIte, Nat.reduceEqDiff, ab_I, ab_L, ab_R, ao_I, ao_L, ao_R, gL_sL, gI_sI, gR_sR, gI_sL, gI_sR, gL_sI, gL_sR, gR_sI, gR_sL, g_76, Int.reduceLE, Int.reduceLT, i1, r1, t198]
      rw [e204_11]
      simp only [Option.getD_some, Option.bind_some, Option.toList_some, Option.toList_none, List.cons_append, List.nil_append, and_self, and_true, true_and, false_and, and_false, ite_self, not_true_eq_false, not_false_eq_true, reduceIte, Nat.reduceEqDiff, ab_I, ab_L, ab_R, ao_I, ao_L, ao_R, gL_sL, gI_sI, gR_sR, gI_sL, gI_sR, gL_sI, gL_sR, gR_sI, gR_sL, g_76, Int.reduceLE, Int.reduceLT, i2, r2, ey, m0, if_false, t2, z1, z64, y1, y2, if_true, l2, t]
    -- registers and stacks lead to what is held
    have rel : RelC τ ψ (cP c, cN c, cR c, cS c, cB c, (recR (cW c) (m : Int) y).1) := by
      obtain ⟨⟨a1, a2⟩, ⟨b1, b2, b3⟩, d, bk, ⟨l1, l2'⟩, _⟩ := h
      have ad : ∀ o, (300 ≤ o → o ≤ 363 ∧ ¬ wg (cW c) 152 (o - 300) = 0) → adC ψ o = adC φ o := fun o ho => by
        unfold adC plC
        by_cases q : 300 ≤ o ∧ o ≤ 363
        · rw [(hψ (o - 300) (by omega) (ho q.1).2).1]
        · rw [if_neg q, if_neg q]
      have en : ∀ v : SV, (300 ≤ v.1 → v.1 ≤ 363 ∧ ¬ wg (cW c) 152 (v.1 - 300) = 0) → enK ψ v = enK φ v := fun v hv => by
        show (if v.1 = 0 then v.2 else adC ψ v.1 + v.2) = (if v.1 = 0 then v.2 else adC φ v.1 + v.2)
        rw [ad v.1 hv]
      refine ⟨⟨a1, (gt _ _ (by omega)).trans a2⟩, ⟨fun r hr => ⟨(b1 r hr).1, fun z => ?_⟩, fun f r hf hr => ⟨(b2 f r hf hr).1, fun z => ?_⟩, ?_⟩, fun f b hf hb => ?_, fun f f1 f2 => (gt _ _ (by omega)).trans (bk f f1 f2), ⟨fun f r z => ?_, fun f b z1 z2 => ?_⟩, wt⟩
      · rw [lg, en _ (l1 _ _)]
        exact (b1 r hr).2 z
      · rw [lg, en _ (l1 _ _)]
        exact (b2 f r hf hr).2 z
      · rw [lg, en _ (fun z => by have z : 300 ≤ cN c + 1 := z; omega)]
        exact b3
      · rw [gt _ _ (by omega)]
        refine ⟨(d f b hf hb).1, fun z1 z2 => ?_⟩
        rw [en _ (l2' f b z1)]
        exact (d f b hf hb).2 z1 z2
      · have := l1 f r z
        exact ⟨this.1, (hψ ((cR c f r).1 - 300) (by omega) this.2).2⟩
      · have := l2' f b z1 z2
        exact ⟨this.1, (hψ ((cS c f b).2.1 - 300) (by omega) this.2).2⟩
    have mv : mvC σ τ := ⟨fun k s z => gt k s (by omega), fun k s _ _ => lg k s, by rw [g2]⟩
    rcases res with ⟨rn, ev⟩ | ⟨i, rs, i64, hi, ev⟩
    · rw [rn] at e
      rw [ev] at s0
      refine hpC_b (ψ := ψ) (v := BitVec.ofNat 64 0) rfl rfl ?_ mv (gt _ _ (by omega)) (gt _ _ (by omega)) rel enG_0.symm okSV_0 lv_0 e
      rw [M197, e197_0]
      simp only [Int.reduceEq, if_true, if_false, s0, e204_49, show ¬ (0 : Int) ≤ -1 by decide, Option.getD_some, Option.bind_some, Option.toList_some, Option.toList_none, List.cons_append, List.nil_append, and_self, and_true, true_and, false_and, and_false, ite_self, not_true_eq_false, not_false_eq_true, reduceIte, Nat.reduceEqDiff, ab_I, ab_L, ab_R, ao_I, ao_L, ao_R, gL_sL, gI_sI, gR_sR, gI_sL, gI_sR, gL_sI, gL_sR, gR_sI, gR_sL, e197_205]
    · rw [rs] at e
      rw [ev] at s0
      have v0 : 0 ≤ ((17172 + 64 * ψ i : Nat) : Int) := by omega
      have ee : iL 1048576 + iL ((17172 + 64 * ψ i : Nat) : Int) = enK ψ (300 + i, 0#64) := by
        show _ = enG (adC ψ) (300 + i, 0#64)
        rw [enG_n (show ¬ 300 + i = 0 by omega), show (0#64 : B64) = BitVec.ofNat 64 0 from rfl, ad_C (by omega), pl_r (by omega), iLa, show 300 + i - 300 = i by omega]
        exact congrArg iL (by omega)
      refine hpC_b (ψ := ψ) rfl rfl ?_ mv (gt _ _ (by omega)) (gt _ _ (by omega)) rel ee (okSV_p (by omega)) (fun z => ⟨by show 300 + i ≤ 363; omega, by show ¬ wg _ 152 (300 + i - 300) = 0; rw [show 300 + i - 300 = i by omega]; exact hi⟩) e
      rw [M197, e197_0]
      simp only [Int.reduceEq, if_true, if_false, s0, e204_49, v0, Option.getD_some, Option.bind_some, Option.toList_some, Option.toList_none, List.cons_append, List.nil_append, and_self, and_true, true_and, false_and, and_false, ite_self, not_true_eq_false, not_false_eq_true, reduceIte, Nat.reduceEqDiff, ab_I, ab_L, ab_R, ao_I, ao_L, ao_R, gL_sL, gI_sI, gR_sR, gI_sL, gI_sR, gL_sI, gL_sR, gR_sI, gR_sL, e197_205]
theorem hp_13C (h : RelC σ φ c) (hI : invW (cW c)) (hk : hh = 132 ∨ hh = 133) (e : hpT RB RH E c hh nx = some (k, c')) : hpC σ φ c hh nx k c' := by
  unfold hpT at e
  rw [if_neg (by omega), if_neg (by omega), if_neg (by omega), if_neg (by omega), if_neg (by omega), if_neg (by omega), if_neg (by omega), if_neg (by omega), if_pos hk] at e
  by_cases q : ¬ ((300 ≤ (rdR c 1).1 ∧ (rdR c 1).1 ≤ 363) ∧ (rdR c 1).2 = 0#64) ∨ ¬ RB.2.2.2.1 (cW c) ((rdR c 1).1 - 300) = true
  · rw [if_pos q] at e
    cases e
  · rw [if_neg q] at e
    have q1 : (300 ≤ (rdR c 1).1 ∧ (rdR c 1).1 ≤ 363) ∧ (rdR c 1).2 = 0#64 := Decidable.byContradiction fun z => q (Or.inl z)
    have q2 : RB.2.2.2.1 (cW c) ((rdR c 1).1 - 300) = true := Decidable.byContradiction fun z => q (Or.inr z)
    have hh' : ¬ wg (cW c) 152 ((rdR c 1).1 - 300) = 0 := of_decide_eq_true q2
    obtain ⟨i, hi⟩ : ∃ i, i = (rdR c 1).1 - 300 := ⟨_, rfl⟩
    have eo : (rdR c 1).1 = 300 + i := by omega
    have i64 : i < 64 := by omega
    rw [← hi] at e hh'
    obtain ⟨e1, _⟩ := rd_C h (r := 1) (by decide) (by omega)
    have wl := h.2.2.2.2.2
    have p1 := (wl.1.2.1 i i64 hh').1
    have r1 : gL σ 76 1 = iL (1048576 + ((17172 + 64 * φ i : Nat) : Int)) := by
      rw [e1]
      show enG (adC φ) (rdR c 1) = _
      rw [enG_p (by omega), q1.2, show (0#64 : B64) = BitVec.ofNat 64 0 from rfl, ad_C (by omega), pl_r q1.1, ← hi]
      rfl
    have e : bhT (kilT c (rdR c 1).1) (cS (kilT c (rdR c 1).1)) (givR (cW c) i (decide (hh = 132))) (0, 0#64) nx = some (k, c') := e
    obtain ⟨τ, t, wt, g2, gt⟩ := giv_C (fl := decide (hh = 132)) wl hI i64 hh'
    have lg := gL_2 g2
    have v2 : ∀ j, wg (givR (cW c) i (decide (hh = 132))) 152 j = if j = i then 0 else wg (cW c) 152 j := fun j => by
      unfold givR
      dsimp only
      split
      · rw [wg_wset]
        by_cases y : j = i
        · rw [if_pos ⟨rfl, y⟩, if_pos y]
        · rw [if_neg (fun z => y z.2), if_neg y]
      · rw [wg_wset_o (by decide), wg_wsL_o (by decide), wg_wset_o (by decide), wg_wset]
        by_cases y : j = i
        · rw [if_pos ⟨rfl, y⟩, if_pos y]
        · rw [if_neg (fun z => y z.2), if_neg y]
    have rel : RelC τ φ (cP c, cN c, cR (kilT c (rdR c 1).1), cS (kilT c (rdR c 1).1), cB c, givR (cW c) i (decide (hh = 132))) := by
      refine RelC_u h (gt _ _ (by omega)) (fun k s _ => lg k s) (fun s => gt _ _ (by omega)) (fun s _ _ => gt _ _ (by omega)) (fun f r => ?_) (fun f b => ?_) ⟨fun f r z => ?_, fun f b z1 z2 => ?_⟩ wt
      · show (if (cR c f r).1 = (rdR c 1).1 then nilR else cR c f r) = _ ∨ (if (cR c f r).1 = (rdR c 1).1 then nilR else cR c f r) = _
        split
        · exact Or.inr rfl
        · exact Or.inl rfl
      · show (if 2 ≤ (cS c f b).1 ∧ (cS c f b).2.1 = (rdR c 1).1 then (0, 0, 0#64) else cS c f b) = _ ∨ (if 2 ≤ (cS c f b).1 ∧ (cS c f b).2.1 = (rdR c 1).1 then (0, 0, 0#64) else cS c f b) = _
        split
        · exact Or.inr rfl
        · exact Or.inl rfl
      · have z : 300 ≤ (if (cR c f r).1 = (rdR c 1).1 then nilR else cR c f r).1 := z
        show (if (cR c f r).1 = (rdR c 1).1 then nilR else cR c f r).1 ≤ 363 ∧ ¬ wg (givR (cW c) i (decide (hh = 132))) 152 ((if (cR c f r).1 = (rdR c 1).1 then nilR else cR c f r).1 - 300) = 0
        by_cases y : (cR c f r).1 = (rdR c 1).1
        · rw [if_pos y] at z
          exact absurd z (show ¬ 300 ≤ (6 : Nat) by decide)
        · rw [if_neg y] at z ⊢
          have := h.2.2.2.2.1.1 f r z
          rw [v2, if_neg (by omega)]
          exact this
      · have z1 : 2 ≤ (if 2 ≤ (cS c f b).1 ∧ (cS c f b).2.1 = (rdR c 1).1 then ((0, 0, 0#64) : MB) else cS c f b).1 := z1
        have z2 : 300 ≤ (if 2 ≤ (cS c f b).1 ∧ (cS c f b).2.1 = (rdR c 1).1 then ((0, 0, 0#64) : MB) else cS c f b).2.1 := z2
        show (if 2 ≤ (cS c f b).1 ∧ (cS c f b).2.1 = (rdR c 1).1 then ((0, 0, 0#64) : MB) else cS c f b).2.1 ≤ 363 ∧ ¬ wg (givR (cW c) i (decide (hh = 132))) 152 ((if 2 ≤ (cS c f b).1 ∧ (cS c f b).2.1 = (rdR c 1).1 then ((0, 0, 0#64) : MB) else cS c f b).2.1 - 300) = 0
        by_cases y : 2 ≤ (cS c f b).1 ∧ (cS c f b).2.1 = (rdR c 1).1
        · rw [if_pos y] at z1
          exact absurd z1 (show ¬ 2 ≤ (0 : Nat) by decide)
        · rw [if_neg y] at z1 z2 ⊢
          have := h.2.2.2.2.1.2 f b z1 z2
          rw [v2, if_neg (by omega)]
          exact this
    have t87 := T187 (σ := σ) (p := 17172 + 64 * φ i) (n := 0) (by omega)
    have t87 : MM 187 [mL (iL (1048576 + ((17172 + 64 * φ i : Nat) : Int))), mL (BitVec.ofNat 64 0)] σ = some (some (mI ((17172 + 64 * φ i : Nat) : Int)), σ) := t87
    have i1 : (1 : Int).toNat = 1 := rfl
    have mv : mvC σ τ := ⟨fun k s z => gt k s (by omega), fun k s _ _ => lg k s, by rw [g2]⟩
    refine hpC_b (d := kilT c (rdR c 1).1) (ψ := φ) (v := BitVec.ofNat 64 0) rfl rfl ?_ mv (gt _ _ (by omega)) (gt _ _ (by omega)) rel enG_0.symm okSV_0 lv_0 e
    rcases hk with y | y
    · rw [y] at t ⊢
      have t : MM 59 [mR (some 26), mI ((17172 + 64 * φ i : Nat) : Int), mI 1] σ = some (none, τ) := t
      rw [M197, e197_0]
      simp only [Int.reduceEq, if_true, if_false, Option.getD_some, Option.bind_some, Option.toList_some, Option.toList_none, List.cons_append, List.nil_append, and_self, and_true, true_and, false_and, and_false, ite_self, not_true_eq_false, not_false_eq_true, reduceIte, Nat.reduceEqDiff, ab_I, ab_L, ab_R, ao_I, ao_L, ao_R, gL_sL, gI_sI, gR_sR, gI_sL, gI_sR, gL_sI, gL_sR, gR_sI, gR_sL, g_76, Int.reduceLE, Int.reduceLT, i1, r1, t87]
      rw [e197_220]
      simp only [not_true_eq_false, if_false]
      rw [e197_232, t]
      simp only [Option.getD_some, Option.bind_some, Option.toList_some, Option.toList_none, List.cons_append, List.nil_append, and_self, and_true, true_and, false_and, and_false, ite_self, not_true_eq_false, not_false_eq_true, reduceIte, Nat.reduceEqDiff, ab_I, ab_L, ab_R, ao_I, ao_L, ao_R, gL_sL, gI_sI, gR_sR, gI_sL, gI_sR, gL_sI, gL_sR, gR_sI, gR_sL, e197_235]
    · rw [y] at t ⊢
      have t : MM 59 [mR (some 26), mI ((17172 + 64 * φ i : Nat) : Int), mI 0] σ = some (none, τ) := t
      rw [M197, e197_0]
      simp only [Int.reduceEq, if_true, if_false, Option.getD_some, Option.bind_some, Option.toList_some, Option.toList_none, List.cons_append, List.nil_append, and_self, and_true, true_and, false_and, and_false, ite_self, not_true_eq_false, not_false_eq_true, reduceIte, Nat.reduceEqDiff, ab_I, ab_L, ab_R, ao_I, ao_L, ao_R, gL_sL, gI_sI, gR_sR, gI_sL, gI_sR, gL_sI, gL_sR, gR_sI, gR_sL, g_76, Int.reduceLE, Int.reduceLT, i1, r1, t87]
      rw [e197_220]
      simp only [Int.reduceEq, not_false_eq_true, if_true]
      rw [e197_232, t]
      simp only [Option.getD_some, Option.bind_some, Option.toList_some, Option.toList_none, List.cons_append, List.nil_append, and_self, and_true, true_and, false_and, and_false, ite_self, not_true_eq_false, not_false_eq_true, reduceIte, Nat.reduceEqDiff, ab_I, ab_L, ab_R, ao_I, ao_L, ao_R, gL_sL, gI_sI, gR_sR, gI_sL, gI_sR, gL_sI, gL_sR, gR_sI, gR_sL, e197_235]
end CHP2
