/-! ===== the class's runs: bytes of the packet, the packet moved ===== -/
section CHP4
variable {σ τ ρ : MS} {W V : WR} {c c' d : TC WR} {m n p q p0 e j i z N C r o k : Nat} {L : List B64} {y nx hh : Int} {E : EV} {φ ψ : Nat → Nat} {x v : B64} {S : Nat → Nat → MB} {u : SV}
/-- a number of the context -/
theorem T180 (hm : m + 4 ≤ 24596) : MM 180 [mR (some 71), mI (m : Int), mL x] σ = some (none, wzS σ 27 (768 + m) ((bysN x 4).map kpW)) := by
  have t := T186 (σ := σ) (x := x) (p := 768 + m) (n := 4) (by decide) (by omega)
  have w1 : w32 (768 + (m : Int)) = ((768 + m : Nat) : Int) := by
    rw [w32_i (by omega) (by omega)]
    rfl
  have t : MM 186 [mR (some 71), mI ((768 + m : Nat) : Int), mL x, mI 4] σ = some (none, wzS σ 27 (768 + m) ((bysN x 4).map kpW)) := t
  rw [M180, e180_0, w1, t]
  simp only [Option.getD_some, Option.bind_some, Option.toList_some, Option.toList_none, List.cons_append, List.nil_append, and_self, and_true, true_and, false_and, and_false, ite_self, not_true_eq_false, not_false_eq_true, reduceIte, Nat.reduceEqDiff, ab_I, ab_L, ab_R, ao_I, ao_L, ao_R, gL_sL, gI_sI, gR_sR, gI_sL, gI_sR, gL_sI, gL_sR, gR_sI, gR_sL, e180_11]
theorem bys_get {b : Nat} (hb : b < n) : ((bysN x n).map kpW).getD b 0 = kpW (byJ x b) := by
  unfold bysN
  rw [List.map_map, List.getD_eq_getElem?_getD, List.getElem?_map, List.getElem?_range hb]
  rfl
/-- the packet's size is put -/
theorem T181 {n : Nat} (hn : n ≤ 256) : ∃ τ, MM 181 [mR (some 71), mI (n : Int)] σ = some (none, τ) ∧ τ.2 = σ.2 ∧ gI τ 71 10 = (n : Int) ∧ ((∀ b, b < 4 → gI τ 27 (768 + b) = kpW (byJ (iL 1048576) b)) ∧ (∀ b, b < 4 → gI τ 27 (772 + b) = kpW (byJ (iL (1048576 + (n : Int))) b)) ∧ ∀ b, b < 4 → gI τ 27 (776 + b) = kpW (byJ (iL (n : Int)) b)) ∧ ∀ k s, ¬ (k = 71 ∧ s = 10) → ¬ (k = 27 ∧ 768 ≤ s ∧ s < 780) → gI τ k s = gI σ k s := by
  obtain ⟨a, ha⟩ : ∃ a, a = sI σ 71 10 (n : Int) := ⟨_, rfl⟩
  obtain ⟨b, hb⟩ : ∃ b, b = wzS a 27 (768 + 0) ((bysN (iL 1048576) 4).map kpW) := ⟨_, rfl⟩
  obtain ⟨d, hd⟩ : ∃ d, d = wzS b 27 (768 + 4) ((bysN (iL 1048576 + iL (n : Int)) 4).map kpW) := ⟨_, rfl⟩
  obtain ⟨τ, hτ⟩ : ∃ τ, τ = wzS d 27 (768 + 8) ((bysN (iL (n : Int)) 4).map kpW) := ⟨_, rfl⟩
  have t1 := T180 (σ := a) (m := 0) (x := iL 1048576) (by decide)
  have t2 := T180 (σ := b) (m := 4) (x := iL 1048576 + iL (n : Int)) (by decide)
  have t3 := T180 (σ := d) (m := 8) (x := iL (n : Int)) (by decide)
  rw [← hb] at t1
  rw [← hd] at t2
  rw [← hτ] at t3
  have g : ∀ k s, gI τ k s = if k = 27 ∧ 776 ≤ s ∧ s < 780 then ((bysN (iL (n : Int)) 4).map kpW).getD (s - 776) 0 else if k = 27 ∧ 772 ≤ s ∧ s < 776 then ((bysN (iL 1048576 + iL (n : Int)) 4).map kpW).getD (s - 772) 0 else if k = 27 ∧ 768 ≤ s ∧ s < 772 then ((bysN (iL 1048576) 4).map kpW).getD (s - 768) 0 else if k = 71 ∧ s = 10 then (n : Int) else gI σ k s := fun k s => by
    rw [hτ, wzS_g, hd, wzS_g, hb, wzS_g, ha, gI_sI, List.length_map, List.length_map, List.length_map, bys_len, bys_len, bys_len]
  refine ⟨τ, ?_, ?_, ?_, ⟨fun i hi => ?_, fun i hi => ?_, fun i hi => ?_⟩, fun k s y1 y2 => ?_⟩
  · have t1 : MM 180 [mR (some 71), mI 0, mL (iL 1048576)] a = some (none, b) := t1
    have t2 : MM 180 [mR (some 71), mI 4, mL (iL 1048576 + iL (n : Int))] b = some (none, d) := t2
    have t3 : MM 180 [mR (some 71), mI 8, mL (iL (n : Int))] d = some (none, τ) := t3
    rw [M181, e181_0, ← ha, t1]
    simp only [Option.getD_some, Option.bind_some, Option.toList_some, Option.toList_none, List.cons_append, List.nil_append, and_self, and_true, true_and, false_and, and_false, ite_self, not_true_eq_false, not_false_eq_true, reduceIte, Nat.reduceEqDiff, ab_I, ab_L, ab_R, ao_I, ao_L, ao_R, gL_sL, gI_sI, gR_sR, gI_sL, gI_sR, gL_sI, gL_sR, gR_sI, gR_sL]
    rw [e181_13, t2]
    simp only [Option.getD_some, Option.bind_some, Option.toList_some, Option.toList_none, List.cons_append, List.nil_append, and_self, and_true, true_and, false_and, and_false, ite_self, not_true_eq_false, not_false_eq_true, reduceIte, Nat.reduceEqDiff, ab_I, ab_L, ab_R, ao_I, ao_L, ao_R, gL_sL, gI_sI, gR_sR, gI_sL, gI_sR, gL_sI, gL_sR, gR_sI, gR_sL]
    rw [e181_24, t3]
    simp only [Option.getD_some, Option.bind_some, Option.toList_some, Option.toList_none, List.cons_append, List.nil_append, and_self, and_true, true_and, false_and, and_false, ite_self, not_true_eq_false, not_false_eq_true, reduceIte, Nat.reduceEqDiff, ab_I, ab_L, ab_R, ao_I, ao_L, ao_R, gL_sL, gI_sI, gR_sR, gI_sL, gI_sR, gL_sI, gL_sR, gR_sI, gR_sL, e181_32]
  · rw [hτ, wzS_2, hd, wzS_2, hb, wzS_2, ha]
    rfl
  · rw [g, if_neg (by omega), if_neg (by omega), if_neg (by omega), if_pos ⟨rfl, rfl⟩]
  · rw [g, if_neg (by omega), if_neg (by omega), if_pos ⟨rfl, by omega, by omega⟩, show 768 + i - 768 = i by omega, bys_get hi]
  · rw [g, if_neg (by omega), if_pos ⟨rfl, by omega, by omega⟩, show 772 + i - 772 = i by omega, bys_get hi, iLa]
  · rw [g, if_pos ⟨rfl, by omega, by omega⟩, show 776 + i - 776 = i by omega, bys_get hi]
  · rw [g, if_neg (by omega), if_neg (by omega), if_neg (by omega), if_neg y1]
theorem hp_26C (h : RelC σ φ c) (hb : bOk σ) (hI : invW (cW c)) (e : hpT RB RH E c 26 nx = some (k, c')) : hpC σ φ c 26 nx k c' := by
  unfold hpT at e
  rw [if_neg (by decide), if_neg (by decide), if_neg (by decide), if_neg (by decide), if_neg (by decide), if_pos rfl] at e
  by_cases q : ¬ (rdR c 2).1 = 0 ∨ ¬ (2 ≤ (rdR c 3).1 ∧ (rdR c 3).1 ≤ 5) ∨ ¬ ((rdR c 4).1 = 0 ∧ 1 ≤ (rdR c 4).2.toNat ∧ (rdR c 4).2.toNat ≤ 128)
  · rw [if_pos q] at e
    cases e
  · rw [if_neg q] at e
    have z2 : (rdR c 2).1 = 0 := Decidable.byContradiction fun z => q (Or.inl z)
    have o3 : 2 ≤ (rdR c 3).1 ∧ (rdR c 3).1 ≤ 5 := Decidable.byContradiction fun z => q (Or.inr (Or.inl z))
    have z4 : (rdR c 4).1 = 0 ∧ 1 ≤ (rdR c 4).2.toNat ∧ (rdR c 4).2.toNat ≤ 128 := Decidable.byContradiction fun z => q (Or.inr (Or.inr z))
    obtain ⟨r2, _⟩ := rd_C h (r := 2) (by decide) (by omega)
    have r2 : gL σ 76 2 = (rdR c 2).2 := r2.trans (enG_z z2)
    obtain ⟨r4, _⟩ := rd_C h (r := 4) (by decide) (by omega)
    have r4 : gL σ 76 4 = (rdR c 4).2 := r4.trans (enG_z z4.1)
    obtain ⟨r3, _⟩ := rd_C h (r := 3) (by decide) (by omega)
    obtain ⟨N, hN⟩ : ∃ N : Nat, N = (rdR c 4).2.toNat := ⟨_, rfl⟩
    obtain ⟨X, hX⟩ : ∃ X, X = (rdR c 2).2 := ⟨_, rfl⟩
    obtain ⟨a, ha⟩ : ∃ a : Nat, a = X.toNat := ⟨_, rfl⟩
    obtain ⟨P, hP⟩ : ∃ P : Nat, P = plC φ (rdR c 3).1 + (rdR c 3).2.toNat := ⟨_, rfl⟩
    have e4 : (rdR c 4).2 = iL (N : Int) := by rw [hN, ← iLnat, BitVec.ofNat_toNat, BitVec.setWidth_eq]
    have r3 : gL σ 76 3 = iL (1048576 + (P : Int)) := by
      rw [r3]
      show enG (adC φ) (rdR c 3) = _
      rw [enG_p (by omega), hP, ← ad_C (by omega), BitVec.ofNat_toNat, BitVec.setWidth_eq]
    rw [← hN, ← hX] at e
    rw [show RH.2.2.2.2.2.2.2.2.2.1 (cW c) X N = pktR (cW c) X N from rfl] at e
    have wl := h.2.2.2.2.2
    have pk := hI.2.2.2.1.1
    have i5 := wl.2.2.2.1.1
    have k5 := wl.2.2.1
    obtain ⟨G, hG⟩ : ∃ G : Nat, G = (wg (cW c) 80 105).toNat := ⟨_, rfl⟩
    have eG : gI σ 71 10 = (G : Int) := by omega
    -- what is put
    have pl : (pktR (cW c) X N).1.length = N ∧ ∀ y ∈ (pktR (cW c) X N).1, y.toNat < 256 := by
      unfold pktR
      split
      · refine ⟨by rw [List.length_map, List.length_range], fun y hy => ?_⟩
        obtain ⟨j, _, e⟩ := List.mem_map.mp hy
        rw [← e]
        exact byW_lt _
      · refine ⟨List.length_replicate, fun y hy => ?_⟩
        rw [(List.mem_replicate.mp hy).2]
        decide
    cases ew : wrL RB c (rdR c 3).1 (rdR c 3).2.toNat (pktR (cW c) X N).1 with
    | none =>
      rw [ew] at e
      cases e
    | some c1 =>
      rw [ew] at e
      have e : bhT c (cS c1) (cW c) (0, (pktR (cW c) X N).2) nx = some (k, c') := e
      obtain ⟨ob, pb, rel⟩ := wrL_C _ _ σ c h hI pl.2 ew
      have es := wrL_s o3 _ ew
      rw [pl.1, ← hP] at pb
      rw [← hP] at rel
      have pb := pb (by omega)
      have o0 := ob 0 (by rw [pl.1]; omega)
      have P256 : 256 ≤ P ∧ P + N ≤ 768 := by
        have := ob (N - 1) (by rw [pl.1]; omega)
        unfold obR at this
        rw [hP, pl_s o3]
        omega
      have rel : RelC (wzS σ 27 P ((pktR (cW c) X N).1.map kpW)) φ (cP c, cN c, cR c, cS c1, cB c, cW c) := by
        rw [es] at rel
        exact rel
      have t87 := T187 (σ := σ) pb
      have p0 : 0 ≤ (P : Int) := by omega
      have z0 : (BitVec.ofNat 64 0).toInt = 0 := by decide
      have tX := toInt_c X
      have tN : (iL (N : Int)).toInt = (N : Int) := iLt (by omega) (by omega)
      have tG : (iL (G : Int)).toInt = (G : Int) := iLt (by omega) (by omega)
      have lN : lI (iL (N : Int)) = (N : Int) := lI_s (by omega)
      have i2 : (2 : Int).toNat = 2 := rfl
      have i3 : (3 : Int).toNat = 3 := rfl
      have i4 : (4 : Int).toNat = 4 := rfl
      have s0 : MM 202 [mR (some 71), mL X, mL (iL (1048576 + (P : Int))), mL (iL (N : Int))] σ = some (some (mL (pktR (cW c) X N).2), wzS σ 27 P ((pktR (cW c) X N).1.map kpW)) := by
        rw [M202, e202_0, t87]
        simp only [Option.getD_some, Option.bind_some, Option.toList_some, Option.toList_none, List.cons_append, List.nil_append, and_self, and_true, true_and, false_and, and_false, ite_self, not_true_eq_false, not_false_eq_true, reduceIte, Nat.reduceEqDiff, ab_I, ab_L, ab_R, ao_I, ao_L, ao_R, gL_sL, gI_sI, gR_sR, gI_sL, gI_sR, gL_sI, gL_sR, gR_sI, gR_sL]
        rw [e202_6, if_pos p0]
        have zer : ¬ (a : Int) + (N : Int) ≤ wg (cW c) 80 105 → RR (lkB tb202) (B202_46, [some (mR (some 71)), some (mL X), none, some (mL (iL (1048576 + (P : Int)))), none, some (mL (iL (N : Int))), none, some (mI (P : Int))], [], σ) = some (some (mL (pktR (cW c) X N).2), wzS σ 27 P ((pktR (cW c) X N).1.map kpW)) := fun no => by
          have ep : pktR (cW c) X N = (List.replicate N 0#64, BitVec.ofInt 64 (-14)) := by
            unfold pktR
            rw [if_neg (by rw [← ha]; exact no)]
          have tf := T582 (σ := σ) (a := P) (n := N) (y := 0) (by omega)
          rw [show w8 0 = 0 by decide] at tf
          have w1 : w32 ((P : Int) + (N : Int)) = ((P + N : Nat) : Int) := by
            rw [w32_i (by omega) (by omega)]
            rfl
          have em : (List.replicate N 0#64).map kpW = List.replicate N 0 := by
            rw [List.map_replicate]
            rfl
          rw [ep, e202_46, lN, w1, tf, em]
          simp only [Option.getD_some, Option.bind_some, Option.toList_some, Option.toList_none, List.cons_append, List.nil_append, and_self, and_true, true_and, false_and, and_false, ite_self, not_true_eq_false, not_false_eq_true, reduceIte, Nat.reduceEqDiff, ab_I, ab_L, ab_R, ao_I, ao_L, ao_R, gL_sL, gI_sI, gR_sR, gI_sL, gI_sR, gL_sI, gL_sR, gR_sI, gR_sL, e202_65]
          rfl
        by_cases ng : X.toInt < (BitVec.ofNat 64 0).toInt
        · rw [if_pos ng]
          exact zer (by rw [z0] at ng; split at tX <;> omega)
        · rw [if_neg ng]
          have tX' : X.toInt = (a : Int) := by rw [z0] at ng; split at tX <;> omega
          by_cases c1' : (iL (gI σ 71 10)).toInt < X.toInt
          · rw [if_pos c1']
            rw [eG, tG, tX'] at c1'
            exact zer (by omega)
          · rw [if_neg c1']
            rw [eG, tG, tX'] at c1'
            have eX : X = iL (a : Int) := by rw [ha, ← iLnat, BitVec.ofNat_toNat, BitVec.setWidth_eq]
            have td : (iL (gI σ 71 10) - X).toInt = (G : Int) - (a : Int) := by
              rw [eG, eX, iLs]
              exact iLt (by omega) (by omega)
            rw [tN, td]
            by_cases c2 : (N : Int) ≤ (G : Int) - (a : Int)
            · rw [if_pos c2]
              have aN : a + N ≤ G := by omega
              have ac0 : ac σ 1 27 27 (a : Int) (P : Int) (N : Int) := by
                have q1 : kd σ 27 = (1, 25364) := rfl
                unfold ac
                rw [q1]
                refine ⟨⟨rfl, rfl⟩, by omega, ?_⟩
                dsimp only
                omega
              have is1 : Option.isSome (some (27 : Nat)) = true := rfl
              have la : lI X = (a : Int) := by
                rw [eX]
                exact lI_s (by omega)
              have w1 : w32 (0 + (a : Int)) = (a : Int) := by
                rw [Int.zero_add, w32_i (by omega) (by omega)]
              have ep : pktR (cW c) X N = ((List.range N).map fun i => byW (wg (cW c) 144 (a + i)), 0#64) := by
                unfold pktR
                rw [if_pos (by rw [← ha]; omega), ← ha]
              have eτ : cpI σ 27 (a : Int) 27 (P : Int) (N : Int) = wzS σ 27 P (((List.range N).map fun i => byW (wg (cW c) 144 (a + i))).map kpW) := by
                refine MS_x (fun k s => ?_) (by rw [wzS_2]; rfl)
                rw [cpI_p, wzS_g, List.length_map, List.length_map, List.length_range]
                by_cases y : k = 27 ∧ P ≤ s ∧ s < P + N
                · rw [if_pos y, if_pos y, List.map_map, List.getD_eq_getElem?_getD, List.getElem?_map, List.getElem?_range (by omega)]
                  show _ = kpW (byW (wg (cW c) 144 (a + (s - P))))
                  rw [k5 _ (by omega), ← w8_kp, w8_i (hb 27 _ rfl).1 (hb 27 _ rfl).2]
                  exact congrArg (gI σ 27) (by omega)
                · rw [if_neg y, if_neg y]
              rw [la, w1, lN, if_pos ⟨⟨is1, is1⟩, ac0⟩, eτ, ep]
            · rw [if_neg c2]
              exact zer (by omega)
      have fz : ∀ (l : List Int) (k s : Nat), ¬ k = 27 → gI (wzS σ 27 P l) k s = gI σ k s := fun l k s z => by rw [wzS_g, if_neg (fun q => z q.1)]
      refine hpC_b (ψ := φ) rfl rfl ?_ mvC_z (fz _ _ _ (by decide)) (fz _ _ _ (by decide)) rel enG_0.symm okSV_0 lv_0 e
      rw [M197, e197_0]
      simp only [Int.reduceEq, if_true, if_false, Option.getD_some, Option.bind_some, Option.toList_some, Option.toList_none, List.cons_append, List.nil_append, and_self, and_true, true_and, false_and, and_false, ite_self, not_true_eq_false, not_false_eq_true, reduceIte, Nat.reduceEqDiff, ab_I, ab_L, ab_R, ao_I, ao_L, ao_R, gL_sL, gI_sI, gR_sR, gI_sL, gI_sR, gL_sI, gL_sR, gR_sI, gR_sL, g_76, Int.reduceLE, Int.reduceLT, i2, i3, i4, r2, r3, r4, e4, ← hX, s0, e197_187]
theorem hp_44C (h : RelC σ φ c) (hI : invW (cW c)) (e : hpT RB RH E c 44 nx = some (k, c')) : hpC σ φ c 44 nx k c' := by
  unfold hpT at e
  rw [if_neg (by decide), if_neg (by decide), if_neg (by decide), if_neg (by decide), if_neg (by decide), if_neg (by decide), if_pos rfl] at e
  by_cases q : ¬ (rdR c 2).1 = 0
  · rw [if_pos q] at e
    cases e
  · rw [if_neg q] at e
    have z2 : (rdR c 2).1 = 0 := Decidable.byContradiction q
    obtain ⟨r2, _⟩ := rd_C h (r := 2) (by decide) (by omega)
    have r2 : gL σ 76 2 = (rdR c 2).2 := r2.trans (enG_z z2)
    obtain ⟨X, hX⟩ : ∃ X, X = (rdR c 2).2 := ⟨_, rfl⟩
    rw [← hX] at e r2
    have e : bhT c (cS c) (triR (cW c) X).1 (0, (triR (cW c) X).2) nx = some (k, c') := e
    have h' := h
    obtain ⟨_, _, _, _, _, hM, k4, k5, k6, k7, k8, k9, k10, k11⟩ := h'
    have pk := hI.2.2.2.1.1
    obtain ⟨y, hy⟩ : ∃ y, y = lI X := ⟨_, rfl⟩
    obtain ⟨G, hG⟩ : ∃ G : Nat, G = (wg (cW c) 80 105).toNat := ⟨_, rfl⟩
    have eG : gI σ 71 10 = (G : Int) := by have := k6.1; omega
    have eW : wg (cW c) 80 105 = (G : Int) := by omega
    have lr : -2147483648 ≤ lI X ∧ lI X < 2147483648 := by
      unfold lI w32
      rw [Int.bmod_def]
      omega
    have tG : (iL (G : Int)).toInt = (G : Int) := iLt (by omega) (by omega)
    have ty : (iL y).toInt = y := iLt (by omega) (by omega)
    have tGy : (iL (G : Int) - iL y).toInt = (G : Int) - y := by
      rw [iLs]
      exact iLt (by omega) (by omega)
    have ly : lI (iL y) = y := lI_s (by omega)
    have z256 : (iL 256).toInt = 256 := by decide
    have i2 : (2 : Int).toNat = 2 := rfl
    -- the call
    have call : ∀ (v : B64) (τ : MS), MM 203 [mR (some 71), mL (iL y)] σ = some (some (mL v), τ) → MM 197 [mR (some 71), mI 44] σ = some (some (mL v), τ) := fun v τ t => by
      rw [M197, e197_0]
      simp only [Int.reduceEq, if_true, if_false, Option.getD_some, Option.bind_some, Option.toList_some, Option.toList_none, List.cons_append, List.nil_append, and_self, and_true, true_and, false_and, and_false, ite_self, not_true_eq_false, not_false_eq_true, reduceIte, Nat.reduceEqDiff, ab_I, ab_L, ab_R, ao_I, ao_L, ao_R, gL_sL, gI_sI, gR_sR, gI_sL, gI_sR, gL_sI, gL_sR, gR_sI, gR_sL, g_76, Int.reduceLE, Int.reduceLT, i2, r2, ← hy, t, e197_200]
    by_cases no : (G : Int) < y ∨ y < 0 ∧ 256 < (G : Int) - y
    · have et : triR (cW c) X = (cW c, BitVec.ofInt 64 (-22)) := by
        unfold triR
        dsimp only
        rw [if_pos (by rw [eW, ← hy]; exact no)]
      rw [et] at e
      refine hpC_b (ψ := φ) (v := iL (-22)) (τ := σ) rfl rfl (call _ _ ?_) mvC_r rfl rfl h enG_0.symm okSV_0 lv_0 e
      rw [M203, e203_0, eG, tG, ty]
      by_cases c1 : (G : Int) < y
      · rw [if_pos c1]
      · rw [if_neg c1, tGy, z256, if_neg (by omega)]
    · obtain ⟨n, hn⟩ : ∃ n : Nat, n = ((G : Int) - y).toNat := ⟨_, rfl⟩
      have en : (G : Int) - y = (n : Int) := by omega
      have n256 : n ≤ 256 := by omega
      obtain ⟨V, hV⟩ : ∃ V : WR, V = wset (fun k s => if k = 144 ∧ (s : Int) < (G : Int) - y then (if 0 ≤ (s : Int) + y then (cW c).1 144 ((s : Int) + y).toNat else 0) else (cW c).1 k s, (cW c).2) 80 105 ((G : Int) - y) := ⟨_, rfl⟩
      have et : triR (cW c) X = (V, 0#64) := by
        unfold triR
        dsimp only
        rw [if_neg (by rw [eW, ← hy]; exact no), eW, ← hy, hV]
      rw [et] at e
      have v : ∀ k s, wg V k s = if k = 80 ∧ s = 105 then (n : Int) else if k = 144 ∧ s < n then (if 0 ≤ (s : Int) + y then wg (cW c) 144 ((s : Int) + y).toNat else 0) else wg (cW c) k s := fun k s => by
        rw [hV, wg_wset, en]
        by_cases y1 : k = 80 ∧ s = 105
        · rw [if_pos y1, if_pos y1]
        · rw [if_neg y1, if_neg y1]
          show (if k = 144 ∧ (s : Int) < (n : Int) then (if 0 ≤ (s : Int) + y then (cW c).1 144 ((s : Int) + y).toNat else 0) else (cW c).1 k s) = _
          by_cases y2 : k = 144 ∧ s < n
          · rw [if_pos y2, if_pos ⟨y2.1, by omega⟩]
          · rw [if_neg y2, if_neg (by omega)]
      have vn : ∀ k s, ¬ (k = 144 ∨ (k = 80 ∧ s = 105)) → wg V k s = wg (cW c) k s := fun k s y1 => by rw [v, if_neg (by omega), if_neg (by omega)]
      -- bytes are moved
      obtain ⟨ω, tw, gw, w2⟩ : ∃ ω, RR (lkB tb203) (B203_0, [some (mR (some 71)), some (mL (iL y)), none, none, none], [], σ) = RR (lkB tb203) (B203_91, [some (mR (some 71)), some (mL (iL y)), none, some (mI y), some (mI (if y < 0 then 0 else y))], [], ω) ∧ (∀ k s, gI ω k s = if k = 27 ∧ s < n then (if 0 ≤ (s : Int) + y then gI σ 27 ((s : Int) + y).toNat else 0) else gI σ k s) ∧ ω.2 = σ.2 := by
        have t570 := T570 (σ := σ) (a := y) (b := 0)
        have is1 : Option.isSome (some (27 : Nat)) = true := rfl
        have c1 : ¬ (G : Int) < y := by omega
        have c2 : (G : Int) - y ≤ 256 := by omega
        have s36 : RR (lkB tb203) (B203_0, [some (mR (some 71)), some (mL (iL y)), none, none, none], [], σ) = RR (lkB tb203) (B203_36, [some (mR (some 71)), some (mL (iL y)), none, some (mI y), none], [mI (if y < 0 then 0 else y)], σ) := by
          rw [e203_0, eG, tG, ty, if_neg c1, tGy, z256, if_pos c2, ly, t570]
          simp only [Option.getD_some, Option.bind_some, Option.toList_some, Option.toList_none, List.cons_append, List.nil_append, and_self, and_true, true_and, false_and, and_false, ite_self, not_true_eq_false, not_false_eq_true, reduceIte, Nat.reduceEqDiff, ab_I, ab_L, ab_R, ao_I, ao_L, ao_R, gL_sL, gI_sI, gR_sR, gI_sL, gI_sR, gL_sI, gL_sR, gR_sI, gR_sL]
        by_cases ng : y < 0
        · obtain ⟨F, hF⟩ : ∃ F : Nat, F = (-y).toNat := ⟨_, rfl⟩
          have eF : y = -(F : Int) := by omega
          have ac0 : ac σ 1 27 27 0 (F : Int) (G : Int) := by
            have q1 : kd σ 27 = (1, 25364) := rfl
            unfold ac
            rw [q1]
            refine ⟨⟨rfl, rfl⟩, by omega, ?_⟩
            dsimp only
            omega
          obtain ⟨κ, hκ⟩ : ∃ κ, κ = cpI σ 27 ((0 : Nat) : Int) 27 (F : Int) (G : Int) := ⟨_, rfl⟩
          have tf := T582 (σ := κ) (a := 0) (n := F) (y := 0) (by omega)
          rw [show w8 0 = 0 by decide] at tf
          have tf : MM 582 [mR (some 27), mI 0, mI ((0 + F : Nat) : Int), mI 0] κ = some (none, wzS κ 27 0 (List.replicate F 0)) := tf
          have nn : ¬ 0 ≤ y := by omega
          have nF : F + G = n := by omega
          have x2 : 0 - y = ((0 + F : Nat) : Int) := by omega
          have x3 : -2147483648 ≤ ((0 + F : Nat) : Int) ∧ ((0 + F : Nat) : Int) < 2147483648 := by omega
          have x4 : -2147483648 ≤ (G : Int) - 0 ∧ (G : Int) - 0 < 2147483648 := by omega
          refine ⟨wzS κ 27 0 (List.replicate F 0), ?_, fun k s => ?_, by rw [wzS_2, hκ]; rfl⟩
          · have w0 : w32 (0 + 0) = 0 := by decide
            have w1 : w32 (0 - y) = ((0 + F : Nat) : Int) := by rw [x2, w32_i x3.1 x3.2]
            have w3 : w32 ((G : Int) - 0) = (G : Int) := by rw [w32_i x4.1 x4.2, Int.sub_zero]
            have ef : ((0 + F : Nat) : Int) = (F : Int) := by rw [Nat.zero_add]
            have w1' : w32 (0 - y) = (F : Int) := w1.trans ef
            rw [s36, if_pos ng, e203_36]
            rw [w0, w1', eG, w3, if_pos ⟨⟨is1, is1⟩, ac0⟩, if_neg nn]
            have e0 : cpI σ 27 0 27 (F : Int) (G : Int) = κ := by rw [hκ]; rfl
            rw [ef] at tf
            rw [e0, tf]
            simp only [Option.getD_some, Option.bind_some, Option.toList_some, Option.toList_none, List.cons_append, List.nil_append, and_self, and_true, true_and, false_and, and_false, ite_self, not_true_eq_false, not_false_eq_true, reduceIte, Nat.reduceEqDiff, ab_I, ab_L, ab_R, ao_I, ao_L, ao_R, gL_sL, gI_sI, gR_sR, gI_sL, gI_sR, gL_sI, gL_sR, gR_sI, gR_sL]
          · rw [wzS_g, List.length_replicate, hκ, cpI_p]
            by_cases y1 : k = 27 ∧ s < n
            · rw [if_pos y1]
              by_cases y2 : s < F
              · rw [if_pos ⟨y1.1, by omega, by omega⟩, rep_g (by omega), if_neg (by omega)]
              · rw [if_neg (by omega), if_pos ⟨y1.1, by omega, by omega⟩, if_pos (by omega)]
                exact congrArg (gI σ 27) (by omega)
            · rw [if_neg y1, if_neg (by omega), if_neg (by omega)]
        · obtain ⟨F, hF⟩ : ∃ F : Nat, F = y.toNat := ⟨_, rfl⟩
          have eF : y = (F : Int) := by omega
          have ac0 : ac σ 1 27 27 (F : Int) 0 (n : Int) := by
            have q1 : kd σ 27 = (1, 25364) := rfl
            unfold ac
            rw [q1]
            refine ⟨⟨rfl, rfl⟩, by omega, ?_⟩
            dsimp only
            omega
          have nn : 0 ≤ y := by omega
          have x1 : -2147483648 ≤ (F : Int) ∧ (F : Int) < 2147483648 := by omega
          have x2 : -2147483648 ≤ (n : Int) ∧ (n : Int) < 2147483648 := by omega
          have x3 : (G : Int) - (F : Int) = (n : Int) := by omega
          refine ⟨cpI σ 27 (F : Int) 27 ((0 : Nat) : Int) (n : Int), ?_, fun k s => ?_, rfl⟩
          · have w0 : w32 (0 + (F : Int)) = (F : Int) := by rw [Int.zero_add, w32_i x1.1 x1.2]
            have w1 : w32 ((F : Int) - (F : Int)) = 0 := by rw [Int.sub_self]; decide
            have w3 : w32 ((G : Int) - (F : Int)) = (n : Int) := by rw [x3, w32_i x2.1 x2.2]
            rw [s36, if_neg ng, e203_36, eG, eF, w0, w1, w3, if_pos ⟨⟨is1, is1⟩, ac0⟩, if_pos (by rw [← eF]; exact nn)]
            rfl
          · rw [cpI_p]
            by_cases y1 : k = 27 ∧ s < n
            · rw [if_pos y1, if_pos ⟨y1.1, by omega, by omega⟩, if_pos (by omega)]
              exact congrArg (gI σ 27) (by omega)
            · rw [if_neg y1, if_neg (by omega)]
      obtain ⟨τ, t, t2, t10, tc, gt⟩ := T181 (σ := ω) n256
      have gn : ∀ k s, ¬ (k = 71 ∧ s = 10) → ¬ (k = 27 ∧ (s < 256 ∨ (768 ≤ s ∧ s < 780))) → gI τ k s = gI σ k s := fun k s y1 y2 => by
        rw [gt k s y1 (by omega), gw, if_neg (by omega)]
      have lg := gL_2 (t2.trans w2)
      have wt : wldC τ φ V := by
        refine ⟨wldM_r hM (fun k s _ => gn _ _ (by omega) (by omega)) (fun s _ => gn _ _ (by omega) (by omega)) (fun _ _ _ => vn _ _ (by omega)), wcV_q k4 (fun s _ => gn _ _ (by omega) (by omega)) (fun _ => vn _ _ (by omega)), fun s z => ?_, ⟨?_, ?_, ?_, ?_, ?_⟩, wcG_q k7 (fun s => gn _ _ (by omega) (by omega)) (fun _ => vn _ _ (by omega)), wcX_q k8 (fun s => gn _ _ (by omega) (by omega)) (fun _ => vn _ _ (by omega)) (vn _ _ (by omega)), ?_, wcY_q k10 (fun s _ => gn _ _ (by omega) (by omega)) (fun s _ => vn _ _ (by omega)), wcL_q k11 (lg _ _) (lg _ _) (by rw [hV]; rfl)⟩
        · rw [v 80 105, if_pos ⟨rfl, rfl⟩] at z
          have sn : s < n := by omega
          have gs : gI τ 27 s = if 0 ≤ (s : Int) + y then gI σ 27 ((s : Int) + y).toNat else 0 := by
            rw [gt 27 s (by omega) (by omega), gw, if_pos ⟨rfl, sn⟩]
          rw [v, if_neg (by omega), if_pos ⟨rfl, sn⟩, gs]
          by_cases y1 : 0 ≤ (s : Int) + y
          · rw [if_pos y1, if_pos y1]
            exact k5 _ (by omega)
          · rw [if_neg y1, if_neg y1]
        · rw [v, if_pos ⟨rfl, rfl⟩, t10]
        · rw [vn _ _ (by omega), gn _ _ (by omega) (by omega)]
          exact k6.2.1
        · rw [vn _ _ (by omega), gn _ _ (by omega) (by omega)]
          exact k6.2.2.1
        · rw [vn _ _ (by omega), gn _ _ (by omega) (by omega)]
          exact k6.2.2.2.1
        · rw [vn _ _ (by omega), gn _ _ (by omega) (by omega)]
          exact k6.2.2.2.2
        · unfold wcC
          rw [v 80 105, if_pos ⟨rfl, rfl⟩]
          exact tc
      have rel : RelC τ φ (cP c, cN c, cR c, cS c, cB c, V) := RelC_w h (gn _ _ (by omega) (by omega)) (fun k s _ => lg k s) (fun s => gn _ _ (by omega) (by omega)) (fun s _ _ => gn _ _ (by omega) (by omega)) (fun i _ z => by rw [vn _ _ (by omega)]; exact z) wt
      refine hpC_b (ψ := φ) (v := BitVec.ofNat 64 0) (τ := τ) rfl rfl (call _ _ ?_) ⟨fun k s z => gn _ _ (by omega) (by omega), fun k s _ _ => lg k s, by rw [t2.trans w2]⟩ (gn _ _ (by omega) (by omega)) (gn _ _ (by omega) (by omega)) rel enG_0.symm okSV_0 lv_0 e
      have w10 : gI ω 71 10 = (G : Int) := by rw [gw, if_neg (by omega)]; exact eG
      have ww : w32 ((G : Int) - y) = (n : Int) := by rw [en, w32_i (by omega) (by omega)]
      rw [M203, tw, e203_91, w10, ww, t]
      simp only [Option.getD_some, Option.bind_some, Option.toList_some, Option.toList_none, List.cons_append, List.nil_append, and_self, and_true, true_and, false_and, and_false, ite_self, not_true_eq_false, not_false_eq_true, reduceIte, Nat.reduceEqDiff, ab_I, ab_L, ab_R, ao_I, ao_L, ao_R, gL_sL, gI_sI, gR_sR, gI_sL, gI_sR, gL_sI, gL_sR, gR_sI, gR_sL, e203_101]
theorem hp_allC (h : RelC σ φ c) (hb : bOk σ) (hI : invW (cW c)) (C : CEO σ E) (hE : okE E) (hR : okRow E) (hK : hpK RB E c hh) (e : hpT RB RH E c hh nx = some (k, c')) : hpC σ φ c hh nx k c' := by
  by_cases h1 : hh = 1
  · subst h1; exact hp_1C h hb hI C hE hR hK e
  by_cases h2 : hh = 2
  · subst h2; exact hp_2C h hb hI C hE hR hK e
  by_cases h3 : hh = 3
  · subst h3; exact hp_3C h hb hI C hE hR hK e
  by_cases h5 : hh = 5
  · subst h5; exact hp_5C h e
  by_cases h6 : hh = 6
  · subst h6; exact hp_6C h hb hI e
  by_cases h7 : hh = 7
  · subst h7; exact hp_7C h e
  by_cases h12 : hh = 12
  · subst h12; exact hp_12C h hI C hK e
  by_cases h26 : hh = 26
  · subst h26; exact hp_26C h hb hI e
  by_cases h44 : hh = 44
  · subst h44; exact hp_44C h hI e
  by_cases h131 : hh = 131
  · subst h131; exact hp_131C h hI C hK e
  by_cases h13 : hh = 132 ∨ hh = 133
  · exact hp_13C h hI h13 e
  exfalso
  unfold hpT at e
  rw [if_neg (by omega), if_neg h5, if_neg h6, if_neg h7, if_neg h12, if_neg h26, if_neg h44, if_neg h131, if_neg h13] at e
  cases e
end CHP4
