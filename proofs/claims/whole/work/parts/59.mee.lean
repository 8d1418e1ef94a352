/-! ===== the reference's judge: a kept state is met, or one is kept ===== -/
/-- one more is kept -/
def kpS (σ : MS) (N : Nat) (a l f : Int) : MS := sI (sI (sI (sI (sI (sI (sI (sI (sI σ 127 N a) 128 N l) 129 N f) 130 N 1) 131 N 0) 80 82 (N : Int)) 80 83 0) 80 72 ((N + 1 : Nat) : Int)) 138 2 ((N + 1 : Nat) : Int)
/-- what is behind it -/
def mtE (σ τ : MS) (w : WK) : Prop := wq τ σ ∧
  (¬ (meeK w).1 = 0 → gI τ 80 90 = (meeK w).1 ∧ gI τ 80 87 = yA w ∧ RTd τ (meeK w).2.2) ∧
  ((meeK w).1 = 0 → gI τ 80 90 = 0 ∧ RK τ (meeK w).2.2 ∧ ((meeK w).2.1 = false → RN τ (meeK w).2.2 ∧ gI τ 80 87 = yA w))
def fK (w : WK) (k : Nat) : Bool := decide (kA (yH w k) = yA w) && covS (kS (yH w k)) (yS w)
section MEE
variable {σ τ ρ : MS} {E : EV} {p : Int → B64} {w : WK} {G : Int → Prop} {S0 : ST} {D : Nat → Int} {N k s : Nat} {K : Nat → KT} {a l f : Int}
theorem kp_I (h : ¬ ((127 ≤ k ∧ k ≤ 131) ∧ s = N)) (h2 : ¬ (k = 80 ∧ (s = 82 ∨ s = 83 ∨ s = 72))) (h3 : ¬ (k = 138 ∧ s = 2)) : gI (kpS σ N a l f) k s = gI σ k s := by
  unfold kpS
  rw [gI_sI, if_neg (by omega), gI_sI, if_neg (by omega), gI_sI, if_neg (by omega), gI_sI, if_neg (by omega), gI_sI, if_neg (by omega), gI_sI, if_neg (by omega), gI_sI, if_neg (by omega), gI_sI, if_neg (by omega), gI_sI, if_neg (by omega)]
theorem kp_L : gL (kpS σ N a l f) k s = gL σ k s := rfl
theorem kp_v : (gI (kpS σ N a l f) 127 N = a ∧ gI (kpS σ N a l f) 128 N = l ∧ gI (kpS σ N a l f) 129 N = f ∧ gI (kpS σ N a l f) 130 N = 1 ∧ gI (kpS σ N a l f) 131 N = 0) ∧ gI (kpS σ N a l f) 80 82 = (N : Int) ∧ gI (kpS σ N a l f) 80 83 = 0 ∧ gI (kpS σ N a l f) 80 72 = ((N + 1 : Nat) : Int) ∧ gI (kpS σ N a l f) 138 2 = ((N + 1 : Nat) : Int) := by
  unfold kpS
  refine ⟨⟨?_, ?_, ?_, ?_, ?_⟩, ?_, ?_, ?_, ?_⟩
  · rw [gI_sI, if_neg (by omega), gI_sI, if_neg (by omega), gI_sI, if_neg (by omega), gI_sI, if_neg (by omega), gI_sI, if_neg (by omega), gI_sI, if_neg (by omega), gI_sI, if_neg (by omega), gI_sI, if_neg (by omega), gI_sI, if_pos ⟨rfl, rfl⟩]
  · rw [gI_sI, if_neg (by omega), gI_sI, if_neg (by omega), gI_sI, if_neg (by omega), gI_sI, if_neg (by omega), gI_sI, if_neg (by omega), gI_sI, if_neg (by omega), gI_sI, if_neg (by omega), gI_sI, if_pos ⟨rfl, rfl⟩]
  · rw [gI_sI, if_neg (by omega), gI_sI, if_neg (by omega), gI_sI, if_neg (by omega), gI_sI, if_neg (by omega), gI_sI, if_neg (by omega), gI_sI, if_neg (by omega), gI_sI, if_pos ⟨rfl, rfl⟩]
  · rw [gI_sI, if_neg (by omega), gI_sI, if_neg (by omega), gI_sI, if_neg (by omega), gI_sI, if_neg (by omega), gI_sI, if_neg (by omega), gI_sI, if_pos ⟨rfl, rfl⟩]
  · rw [gI_sI, if_neg (by omega), gI_sI, if_neg (by omega), gI_sI, if_neg (by omega), gI_sI, if_neg (by omega), gI_sI, if_pos ⟨rfl, rfl⟩]
  · rw [gI_sI, if_neg (by omega), gI_sI, if_neg (by omega), gI_sI, if_neg (by omega), gI_sI, if_pos ⟨rfl, rfl⟩]
  · rw [gI_sI, if_neg (by omega), gI_sI, if_neg (by omega), gI_sI, if_pos ⟨rfl, rfl⟩]
  · rw [gI_sI, if_neg (by omega), gI_sI, if_pos ⟨rfl, rfl⟩]
  · rw [gI_sI, if_pos ⟨rfl, rfl⟩]
theorem kp_J {i : Nat} {S : ST} (j : JSt σ i S) : JSt (kpS σ N a l f) i S := JSt_fr (fun k s h1 h2 => kp_I (by omega) (by omega) (by omega)) (fun k s h1 h2 => kp_L) j
theorem kp_wq : wq (kpS σ N a l f) σ := ⟨fun k s p => kp_I (by omega) (by omega) (by omega), fun k s p => kp_L, rfl⟩
theorem L483w {N : Nat} (h : N < 251) : w32 (1 + (N : Int)) = ((1 + N : Nat) : Int) := by
  rw [w32_i (by omega) (by omega)]
  omega
set_option maxHeartbeats 1000000 in
theorem T483 (I : INV dumB dumH E p id S0 G w D) (X : exI w) (hN : RN σ w) (h87 : gI σ 80 87 = yA w) (h90 : gI σ 80 90 = 0) (hK : RK σ w) : okc (MM 483 [mR (some 80)] σ) (some (mI (b2 ((meeK w).2.1 = true)))) (fun τ => mtE σ τ w) := by
  obtain ⟨kb, ⟨lN, N250, N1⟩, ⟨F0, FG, G4⟩⟩ := inv_B I X
  obtain ⟨⟨c1, c2, c3, c4⟩, kr, rows, wts, ⟨⟨d1, d2, d4, d5⟩, kn⟩⟩ := hK
  obtain ⟨j0, k82, k83⟩ := hN
  obtain ⟨⟨ok, okm, okg, ga⟩, wfK, wfW⟩ := I.2.2.2.2.2
  obtain ⟨⟨x1, x2, x3⟩, ⟨x4, x5, x6⟩, x7, x8⟩ := X
  have hF := ok.1
  have kS0 := kst_of ok
  have kK : ∀ k, k < yNn w → kst (kS (yH w k)) := fun k q => kst_of (wfK k q).1
  have kWt : ∀ j, j < yM w → kst (wtS (yW w j)) := fun j q => kst_of (wfW j q).1
  have key : ∀ (j k : Nat) (τ : MS), yNn w = k + j → metK w = (List.range' k j).find? (fK w) → vq τ σ → okc (RR (lkB tb483) (B483_2, [some (mR (some 80)), some (mI (k : Int))], [], τ)) (some (mI (b2 ((meeK w).2.1 = true)))) (fun τ => mtE σ τ w) := by
    intro j
    induction j with
    | zero =>
      intro k τ e hm hv
      have hm : metK w = none := hm
      have g : ∀ k s, ¬ (k = 80 ∧ s = 101) ∧ ¬ k = 142 ∧ ¬ k = 143 → gI τ k s = gI σ k s := fun k s q => vq_I hv q
      have g72 : gI τ 80 72 = (yNn w : Int) := (g _ _ (by omega)).trans c3
      have le : (yNn w : Int) ≤ (k : Int) := by omega
      by_cases n250 : yNn w = 250
      · have un : meeK w = (12, false, w) := by
          unfold meeK
          rw [hm]
          exact if_pos n250
        have e250 : (yNn w : Int) = 250 := by omega
        rw [un, b2_no (p := (12, false, w).2.1 = true) (by intro q; cases q), e483_2]
        simp only [e483_89, Option.getD_some, Option.bind_some, Option.toList_some, Option.toList_none, List.cons_append, List.nil_append, and_self, and_true, true_and, false_and, and_false, ite_self, not_true_eq_false, not_false_eq_true, reduceIte, Nat.reduceEqDiff, ab_I, ab_L, ab_R, ao_I, ao_L, ao_R, gL_sL, gI_sI, gR_sR, gI_sL, gI_sR, gL_sI, gL_sR, gR_sI, gR_sL, g72, le, eq_true e250, T473]
        refine okc_s ?_
        unfold mtE
        rw [un]
        exact ⟨wq_t (wq_jq jq_f) (wq_vq hv), fun _ => ⟨by rw [fl_g, g _ _ (by omega), h90, fst0], (fl_o (by omega)).trans ((g _ _ (by omega)).trans h87), ⟨⟨(fl_o (by omega)).trans ((g _ _ (by omega)).trans d1), (fl_o (by omega)).trans ((g _ _ (by omega)).trans d2), (fl_o (by omega)).trans ((g _ _ (by omega)).trans d4), (fl_o (by omega)).trans ((g _ _ (by omega)).trans d5)⟩, KN_fr (fun k s q => (fl_o (by omega)).trans (g _ _ (by omega))) (fun s => hv.2.1 _ _) kn⟩⟩, fun z => absurd z (show ¬ (12 : Int) = 0 by decide)⟩
      · have un : meeK w = (0, false, ((yS w, yA w, yNn w, 0, yG w, yT w), (yNn w + 1, upK (yH w) (yNn w) (yS w, yA w, (yK w : Int), yF w, 1, 0)), w.2.2)) := by
          unfold meeK
          rw [hm]
          exact if_neg n250
        have nN : ¬ (yNn w : Int) = 250 := by omega
        have jτ : J0 τ (yS w) := JSt_fr (fun k s h1 h2 => g _ _ (by omega)) (fun k s h1 h2 => hv.2.1 _ _) j0
        have f4 := JSt_4 kS0.1.2 kS0.2.1 jτ
        have t8 : MM 468 [mR (some 80), mI 0, mI ((1 + yNn w : Nat) : Int)] τ = some (none, cpS τ 0 (1 + yNn w)) := T468s (σ := τ) (x := 0) (y := 1 + yNn w) (by omega) (by omega) (by omega) kS0 jτ
        have jN : JSt (cpS τ 0 (1 + yNn w)) (1 + yNn w) (yS w) := cp_J (by omega) (by omega) (by omega) kS0.1 kS0.2.1 jτ
        have jo : ∀ (i : Nat) (T : ST), ¬ i = 1 + yNn w → kst T → JSt τ i T → JSt (cpS τ 0 (1 + yNn w)) i T := fun i T h1 h2 h3 => cp_o f4 h1 h2.1.2 h2.2.1 h3
        have go : ∀ k s, (k = 80 ∧ ¬ s = 101) ∨ (127 ≤ k ∧ k ≤ 141) → gI (cpS τ 0 (1 + yNn w)) k s = gI σ k s := fun k s q => (cp_I f4 (by omega)).trans (g _ _ (by omega))
        have lo : ∀ s, gL (cpS τ 0 (1 + yNn w)) 140 s = gL σ 140 s := fun s => (cp_L f4.1 (by omega)).trans (hv.2.1 _ _)
        have wo : wq (cpS τ 0 (1 + yNn w)) σ := wq_t ⟨fun k s q => cp_I f4 (by omega), fun k s q => cp_L f4.1 (by omega), rfl⟩ (wq_vq hv)
        generalize cpS τ 0 (1 + yNn w) = ρ at t8 jN jo go lo wo
        have r72 : gI ρ 80 72 = (yNn w : Int) := (go _ _ (by omega)).trans c3
        have r87 : gI ρ 80 87 = yA w := (go _ _ (by omega)).trans h87
        have r82 : gI ρ 80 82 = (yK w : Int) := (go _ _ (by omega)).trans k82
        have r83 : gI ρ 80 83 = yF w := (go _ _ (by omega)).trans k83
        have b1 : 0 ≤ (yNn w : Int) ∧ (yNn w : Int) < 252 := by omega
        have b2' : yNn w < 251 := by omega
        have b3 : yNn w < 100000 := by omega
        have fin : mtE σ (kpS ρ (yNn w) (yA w) (yK w : Int) (yF w)) w := by
          obtain ⟨⟨v1, v2, v3, v4, v5⟩, v6, v7, v8, v9⟩ := kp_v (σ := ρ) (N := yNn w) (a := yA w) (l := (yK w : Int)) (f := yF w)
          unfold mtE
          rw [un]
          refine ⟨wq_t kp_wq wo, fun q => absurd rfl q, fun _ => ⟨?_, ⟨⟨?_, ?_, v8, ?_⟩, fun k hk => ?_, fun k hk => ?_, fun j hj => ?_, ⟨⟨?_, v9, ?_, ?_⟩, KN_fr (fun k s q => (kp_I (by omega) (by omega) (by omega)).trans (go _ _ (by omega))) (fun s => kp_L.trans (lo s)) kn⟩⟩, fun _ => ⟨⟨kp_J (jo 0 _ (by omega) kS0 jτ), v6, v7⟩, ?_⟩⟩⟩
          · exact (kp_I (by omega) (by omega) (by omega)).trans ((go _ _ (by omega)).trans h90)
          · exact (kp_I (by omega) (by omega) (by omega)).trans ((go _ _ (by omega)).trans c1)
          · exact (kp_I (by omega) (by omega) (by omega)).trans ((go _ _ (by omega)).trans c2)
          · exact (kp_I (by omega) (by omega) (by omega)).trans ((go _ _ (by omega)).trans c4)
          · have hk : k < yNn w + 1 := hk
            show _ = kA (upK (yH w) (yNn w) (yS w, yA w, (yK w : Int), yF w, 1, 0) k) ∧ _ = kB (upK (yH w) (yNn w) (yS w, yA w, (yK w : Int), yF w, 1, 0) k) ∧ _ = kF (upK (yH w) (yNn w) (yS w, yA w, (yK w : Int), yF w, 1, 0) k) ∧ _ = kW (upK (yH w) (yNn w) (yS w, yA w, (yK w : Int), yF w, 1, 0) k) ∧ _ = kL (upK (yH w) (yNn w) (yS w, yA w, (yK w : Int), yF w, 1, 0) k)
            unfold upK
            by_cases e : k = yNn w
            · rw [if_pos e, e]
              exact ⟨v1, v2, v3, v4, v5⟩
            · rw [if_neg e, kp_I (by omega) (by omega) (by omega), kp_I (by omega) (by omega) (by omega), kp_I (by omega) (by omega) (by omega), kp_I (by omega) (by omega) (by omega), kp_I (by omega) (by omega) (by omega), go _ _ (by omega), go _ _ (by omega), go _ _ (by omega), go _ _ (by omega), go _ _ (by omega)]
              exact kr k (by omega)
          · have hk : k < yNn w + 1 := hk
            show JSt _ (1 + k) (kS (upK (yH w) (yNn w) (yS w, yA w, (yK w : Int), yF w, 1, 0) k))
            unfold upK
            by_cases e : k = yNn w
            · rw [if_pos e, e]
              exact kp_J jN
            · rw [if_neg e]
              have lk : k < yNn w := by omega
              exact kp_J (jo (1 + k) _ (by omega) (kK k lk) (JSt_fr (fun k s h1 h2 => g _ _ (by omega)) (fun k s h1 h2 => hv.2.1 _ _) (rows k lk)))
          · obtain ⟨q1, q2, q3, q4⟩ := wts j hj
            exact ⟨kp_J (jo (252 + j) _ (by omega) (kWt j hj) (JSt_fr (fun k s h1 h2 => g _ _ (by omega)) (fun k s h1 h2 => hv.2.1 _ _) q1)), (kp_I (by omega) (by omega) (by omega)).trans ((go _ _ (by omega)).trans q2), (kp_I (by omega) (by omega) (by omega)).trans ((go _ _ (by omega)).trans q3), (kp_I (by omega) (by omega) (by omega)).trans ((go _ _ (by omega)).trans q4)⟩
          · exact (kp_I (by omega) (by omega) (by omega)).trans ((go _ _ (by omega)).trans d1)
          · exact (kp_I (by omega) (by omega) (by omega)).trans ((go _ _ (by omega)).trans d4)
          · exact (kp_I (by omega) (by omega) (by omega)).trans ((go _ _ (by omega)).trans d5)
          · exact (kp_I (by omega) (by omega) (by omega)).trans ((go _ _ (by omega)).trans h87)
        unfold kpS at fin
        rw [un, b2_no (p := (0, false, ((yS w, yA w, yNn w, 0, yG w, yT w), (yNn w + 1, upK (yH w) (yNn w) (yS w, yA w, (yK w : Int), yF w, 1, 0)), w.2.2)).2.1 = true) (by intro q; cases q), e483_2]
        simp only [e483_102, e483_141, e483_169, e483_194, Option.getD_some, Option.bind_some, Option.toList_some, Option.toList_none, List.cons_append, List.nil_append, and_self, and_true, true_and, false_and, and_false, ite_self, not_true_eq_false, not_false_eq_true, reduceIte, Nat.reduceEqDiff, ab_I, ab_L, ab_R, ao_I, ao_L, ao_R, gL_sL, gI_sI, gR_sR, gI_sL, gI_sR, gL_sI, gL_sR, gR_sI, gR_sL, g72, le, nN, L483w b2', t8, g_127, g_128, g_129, g_130, g_131, g_138, Int.reduceLT, Int.reduceLE, show (2 : Int).toNat = 2 from rfl, r72, r87, r82, r83, b1.1, b1.2, Int.toNat_natCast, w32_s b3]
        exact okc_s fin
    | succ j ih =>
      intro k τ e hm hv
      have lk : k < yNn w := by omega
      have g : ∀ k s, ¬ (k = 80 ∧ s = 101) ∧ ¬ k = 142 ∧ ¬ k = 143 → gI τ k s = gI σ k s := fun k s q => vq_I hv q
      have g72 : gI τ 80 72 = (yNn w : Int) := (g _ _ (by omega)).trans c3
      have g87 : gI τ 80 87 = yA w := (g _ _ (by omega)).trans h87
      have nl : ¬ (yNn w : Int) ≤ (k : Int) := by omega
      have b1 : 0 ≤ (k : Int) ∧ (k : Int) < 252 := by omega
      have b2' : k < 251 := by omega
      have b3 : k < 100000 := by omega
      obtain ⟨r1, r2, r3, r4, r5⟩ := kr k lk
      have g127 : gI τ 127 k = kA (yH w k) := (g _ _ (by omega)).trans r1
      rw [List.range'_succ] at hm
      by_cases q1 : kA (yH w k) = yA w
      · have jA : JSt τ (1 + k) (kS (yH w k)) := JSt_fr (fun k s h1 h2 => g _ _ (by omega)) (fun k s h1 h2 => hv.2.1 _ _) (rows k lk)
        have jτ : J0 τ (yS w) := JSt_fr (fun k s h1 h2 => g _ _ (by omega)) (fun k s h1 h2 => hv.2.1 _ _) j0
        have kk := kK k lk
        obtain ⟨τ', e6, hv'⟩ := T486 (σ := τ) (i := 1 + k) (by omega) ⟨kk.1, hF⟩ kk.2.1 jA jτ (x2 k lk).1 x1
        have hv2 := vq_t hv' hv
        have g' : ∀ k s, ¬ (k = 80 ∧ s = 101) ∧ ¬ k = 142 ∧ ¬ k = 143 → gI τ' k s = gI σ k s := fun k s q => vq_I hv2 q
        by_cases q2 : covS (kS (yH w k)) (yS w) = true
        · have fe : fK w k = true := by
            unfold fK
            rw [q2, decide_eq_true q1]
            rfl
          rw [List.find?_cons_of_pos fe] at hm
          rw [b2_yes q2] at e6
          have g130 : gI τ' 130 k = kW (yH w k) := (g' _ _ (by omega)).trans r4
          have g131 : gI τ' 131 k = kL (yH w k) := (g' _ _ (by omega)).trans r5
          have g83 : gI τ' 80 83 = yF w := (g' _ _ (by omega)).trans k83
          obtain ⟨b4, b5, b6, b7⟩ := kb k lk
          by_cases q3 : 0 < kW (yH w k)
          · have un : meeK w = (11, false, w) := by
              unfold meeK
              rw [hm]
              exact if_pos q3
            have n3 : ¬ kW (yH w k) ≤ 0 := by omega
            rw [un, b2_no (p := (11, false, w).2.1 = true) (by intro q; cases q), e483_2]
            simp only [e483_30, e483_48, Option.getD_some, Option.bind_some, Option.toList_some, Option.toList_none, List.cons_append, List.nil_append, and_self, and_true, true_and, false_and, and_false, ite_self, not_true_eq_false, not_false_eq_true, reduceIte, Nat.reduceEqDiff, ab_I, ab_L, ab_R, ao_I, ao_L, ao_R, gL_sL, gI_sI, gR_sR, gI_sL, gI_sR, gL_sI, gL_sR, gR_sI, gR_sL, g72, g87, nl, g_127, g_130, b1.1, b1.2, Int.toNat_natCast, g127, eq_true q1, L483w b2', e6, oneI, g130, n3, T473]
            refine okc_s ?_
            unfold mtE
            rw [un]
            exact ⟨wq_t (wq_jq jq_f) (wq_vq hv2), fun _ => ⟨by rw [fl_g, g' _ _ (by omega), h90, fst0], (fl_o (by omega)).trans ((g' _ _ (by omega)).trans h87), ⟨⟨(fl_o (by omega)).trans ((g' _ _ (by omega)).trans d1), (fl_o (by omega)).trans ((g' _ _ (by omega)).trans d2), (fl_o (by omega)).trans ((g' _ _ (by omega)).trans d4), (fl_o (by omega)).trans ((g' _ _ (by omega)).trans d5)⟩, KN_fr (fun k s q => (fl_o (by omega)).trans (g' _ _ (by omega))) (fun s => hv2.2.1 _ _) kn⟩⟩, fun z => absurd z (show ¬ (11 : Int) = 0 by decide)⟩
          · have un : meeK w = (0, true, (w.1, (yNn w, endK (yH w) (yK w) (yF w + kL (yH w k))), w.2.2)) := by
              unfold meeK
              rw [hm]
              exact if_neg q3
            have n3 : kW (yH w k) ≤ 0 := by omega
            have kr' : KR τ' (yNn w) (yH w) := fun k hk => by
              rw [g' _ _ (by omega), g' _ _ (by omega), g' _ _ (by omega), g' _ _ (by omega), g' _ _ (by omega)]
              exact kr k hk
            have t4 := T484 (σ := τ') (n := yF w + kL (yH w k)) N250 kr' kb ((g' _ _ (by omega)).trans k82) lN (by omega)
            have w3 : w32 (yF w + kL (yH w k)) = yF w + kL (yH w k) := w32_i (by omega) (by omega)
            rw [un, b2_yes (p := (0, true, (w.1, (yNn w, endK (yH w) (yK w) (yF w + kL (yH w k))), w.2.2)).2.1 = true) rfl, e483_2]
            simp only [e483_30, Option.getD_some, Option.bind_some, Option.toList_some, Option.toList_none, List.cons_append, List.nil_append, and_self, and_true, true_and, false_and, and_false, ite_self, not_true_eq_false, not_false_eq_true, reduceIte, Nat.reduceEqDiff, ab_I, ab_L, ab_R, ao_I, ao_L, ao_R, gL_sL, gI_sI, gR_sR, gI_sL, gI_sR, gL_sI, gL_sR, gR_sI, gR_sL, g72, g87, nl, g_127, g_130, g_131, b1.1, b1.2, Int.toNat_natCast, g127, eq_true q1, L483w b2', e6, oneI, g130, eq_true n3, g131, g83, w3]
            clear w3
            refine okc_b t4 fun ρ z => ?_
            simp only [Option.toList_none, List.nil_append, e483_65]
            refine okc_s ?_
            have gr : ∀ k s, ¬ (k = 80 ∧ s = 101) ∧ ¬ k = 142 ∧ ¬ k = 143 → ¬ ((k = 130 ∨ k = 131) ∧ s < 252) → gI ρ k s = gI σ k s := fun k s q1 q2 => (z.2.1 k s q2).trans (g' k s q1)
            unfold mtE
            rw [un]
            refine ⟨wq_t (wq_kq z.2) (wq_vq hv2), fun q => absurd rfl q, fun _ => ⟨(gr _ _ (by omega) (by omega)).trans h90, ⟨⟨(gr _ _ (by omega) (by omega)).trans c1, (gr _ _ (by omega) (by omega)).trans c2, (gr _ _ (by omega) (by omega)).trans c3, (gr _ _ (by omega) (by omega)).trans c4⟩, z.1, fun k hk => ?_, fun j hj => ?_, ⟨⟨(gr _ _ (by omega) (by omega)).trans d1, (gr _ _ (by omega) (by omega)).trans d2, (gr _ _ (by omega) (by omega)).trans d4, (gr _ _ (by omega) (by omega)).trans d5⟩, KN_fr (fun k s q => gr _ _ (by omega) (by omega)) (fun s => (z.2.2.1 _ _).trans (hv2.2.1 _ _)) kn⟩⟩, fun q => (by cases q)⟩⟩
            · show JSt ρ (1 + k) (kS (endK (yH w) (yK w) (yF w + kL (yH w _)) k))
              rw [(end_same _ _ _ k).1]
              exact JSt_fr (fun k s h1 h2 => gr _ _ (by omega) (by omega)) (fun k s h1 h2 => (z.2.2.1 _ _).trans (hv2.2.1 _ _)) (rows k hk)
            · obtain ⟨q1, q2, q3, q4⟩ := wts j hj
              exact ⟨JSt_fr (fun k s h1 h2 => gr _ _ (by omega) (by omega)) (fun k s h1 h2 => (z.2.2.1 _ _).trans (hv2.2.1 _ _)) q1, (gr _ _ (by omega) (by omega)).trans q2, (gr _ _ (by omega) (by omega)).trans q3, (gr _ _ (by omega) (by omega)).trans q4⟩
        · have fe : ¬ fK w k = true := by
            unfold fK
            rw [Bool.and_eq_true]
            exact fun z => q2 z.2
          rw [List.find?_cons_of_neg fe] at hm
          rw [b2_no q2] at e6
          rw [e483_2]
          simp only [e483_30, e483_67, Option.getD_some, Option.bind_some, Option.toList_some, Option.toList_none, List.cons_append, List.nil_append, and_self, and_true, true_and, false_and, and_false, ite_self, not_true_eq_false, not_false_eq_true, reduceIte, Nat.reduceEqDiff, ab_I, ab_L, ab_R, ao_I, ao_L, ao_R, gL_sL, gI_sI, gR_sR, gI_sL, gI_sR, gL_sI, gL_sR, gR_sI, gR_sL, g72, g87, nl, g_127, b1.1, b1.2, Int.toNat_natCast, g127, eq_true q1, L483w b2', e6, w32_s b3]
          exact ih (k + 1) τ' (by omega) hm hv2
      · have fe : ¬ fK w k = true := by
          unfold fK
          rw [Bool.and_eq_true]
          exact fun z => q1 (of_decide_eq_true z.1)
        rw [List.find?_cons_of_neg fe] at hm
        rw [e483_2]
        simp only [e483_67, Option.getD_some, Option.bind_some, Option.toList_some, Option.toList_none, List.cons_append, List.nil_append, and_self, and_true, true_and, false_and, and_false, ite_self, not_true_eq_false, not_false_eq_true, reduceIte, Nat.reduceEqDiff, ab_I, ab_L, ab_R, ao_I, ao_L, ao_R, gL_sL, gI_sI, gR_sR, gI_sL, gI_sR, gL_sI, gL_sR, gR_sI, gR_sL, g72, g87, nl, g_127, b1.1, b1.2, Int.toNat_natCast, g127, q1, w32_s b3]
        exact ih (k + 1) τ (by omega) hm hv
  have := key (yNn w) 0 σ (by omega) (by
    unfold metK
    rw [List.range_eq_range']
    rfl) (vq_r _)
  rw [M483, e483_0]
  exact this
end MEE
