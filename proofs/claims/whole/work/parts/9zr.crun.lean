/-! ===== the class's runs: the begin, the end ===== -/
/-- the rest, outside of runs -/
def wldO (σ : MS) (W : WR) : Prop := wldM σ (fun _ => 0) W ∧ (∀ i, i < 64 → wg W 152 i = 0) ∧ wcV σ W ∧ wcQ σ W ∧ (wg W 80 105 = gI σ 71 10 ∧ wg W 80 110 = gI σ 71 15 ∧ wg W 80 113 = gI σ 71 18) ∧ wcG σ W ∧ wcX σ W ∧ (wg W 80 106 = gI σ 71 11 ∧ wg W 80 107 = gI σ 71 12 ∧ -2147483648 ≤ wg W 80 106 ∧ wg W 80 106 < 2147483648) ∧ wcL σ W
section CRUN
variable {σ τ ρ υ : MS} {W V : WR} {c c' d r : TC WR} {w w2 : B64} {m n p q e j z N o k s K : Nat} {y nx hh i x1 x2 : Int} {E : EV} {φ ψ : Nat → Nat} {x v x3 : B64} {u : SV}
theorem wldM_p (h : wldM σ φ W) (h0 : ∀ i, i < 64 → wg W 152 i = 0) : wldM σ ψ W := by
  obtain ⟨h1, h2, h3⟩ := h
  refine ⟨fun m hm => ?_, fun i hi z => absurd (h0 i hi) z, fun i j hi _ z => absurd (h0 i hi) z⟩
  obtain ⟨a1, a2, a3, a4, a5, a6⟩ := h1 m hm
  refine ⟨a1, a2, a3, a4, fun z i hi y => ?_, a6⟩
  obtain ⟨q1, q2⟩ := a5 z i hi y
  refine ⟨q1, ?_⟩
  rcases q2 with ⟨j, j1, j2, _⟩ | q2
  · exact absurd (h0 j j1) j2
  · exact Or.inr q2
/-- the begin of a run -/
theorem B179 {s0 : Nat} (wo : wldO σ W) (hI : invW W) (hb : bOk σ) : ∃ ρ, MM 179 [mR (some 71), mI (s0 : Int), mI x2] σ = RR (lkB tb179) (B179_53, [some (mR (some 71)), some (mI (s0 : Int)), some (mI x2), some (mL (gL σ 71 16)), none, some (mI 0)], [], ρ) ∧ RelC ρ (fun _ => 0) (st0 (bgW W (s0 : Int))) ∧ gI ρ 71 9 = 0 ∧ gI ρ 71 8 = 0 ∧ gI ρ 71 7 = (s0 : Int) ∧ mvC σ ρ ∧ bOk ρ := by
  obtain ⟨hM, h0, k4, k5, k6, k7, k8, k10, k11⟩ := wo
  have pk := hI.2.2.2.1.1
  obtain ⟨G, hG⟩ : ∃ G : Nat, G = (wg W 80 105).toNat := ⟨_, rfl⟩
  have eG : gI σ 71 10 = (G : Int) := by omega
  obtain ⟨a, ha⟩ : ∃ a, a = sI (sI σ 71 15 0) 71 9 0 := ⟨_, rfl⟩
  have ga : ∀ k s, gI a k s = if k = 71 ∧ s = 9 then 0 else if k = 71 ∧ s = 15 then 0 else gI σ k s := fun k s => by rw [ha, gI_sI, gI_sI]
  have ba : bOk a := by
    rw [ha]
    exact bOk_w (bOk_w hb (fun y => absurd (show (26 : Nat) = 1 from y) (by decide))) (fun y => absurd (show (26 : Nat) = 1 from y) (by decide))
  obtain ⟨b, hb⟩ : ∃ b, b = wzS a 27 (768 + 12) ((bysN (iL (gI σ 71 11)) 4).map kpW) := ⟨_, rfl⟩
  obtain ⟨c, hc⟩ : ∃ c, c = wzS b 27 (768 + 16) ((bysN (iL (gI σ 71 12)) 4).map kpW) := ⟨_, rfl⟩
  have t1 := T180 (σ := a) (m := 12) (x := iL (gI σ 71 11)) (by decide)
  have t2 := T180 (σ := b) (m := 16) (x := iL (gI σ 71 12)) (by decide)
  rw [← hb] at t1
  rw [← hc] at t2
  have gc : ∀ k s, gI c k s = if k = 27 ∧ 784 ≤ s ∧ s < 788 then ((bysN (iL (gI σ 71 12)) 4).map kpW).getD (s - 784) 0 else if k = 27 ∧ 780 ≤ s ∧ s < 784 then ((bysN (iL (gI σ 71 11)) 4).map kpW).getD (s - 780) 0 else gI a k s := fun k s => by
    rw [hc, wzS_g, hb, wzS_g, List.length_map, List.length_map, bys_len, bys_len]
  have c2 : c.2 = σ.2 := by
    rw [hc, wzS_2, hb, wzS_2, ha]
    rfl
  obtain ⟨d, t3, d2, d10, dc, gd⟩ := T181 (σ := c) (n := G) (by omega)
  obtain ⟨ρ, t4, gr, lr, r2⟩ := T182 (σ := d) (y := (s0 : Int))
  have gn : ∀ k s, ¬ (k = 71 ∧ (s = 6 ∨ s = 7 ∨ s = 8 ∨ s = 9 ∨ s = 10 ∨ s = 15)) → ¬ (k = 27 ∧ 256 ≤ s ∧ s < 788) → gI ρ k s = gI σ k s := fun k s y1 y2 => by
    rw [gr, if_neg (by omega), if_neg (by omega), if_neg (by omega), if_neg (by omega), gd _ _ (by omega) (by omega), gc, if_neg (by omega), if_neg (by omega), ga, if_neg (by omega), if_neg (by omega)]
  have ln : ∀ k s, ¬ k = 76 → gL ρ k s = gL σ k s := fun k s y1 => by
    rw [lr, if_neg (by omega), if_neg (by omega), if_neg (by omega), gL_2 d2, gL_2 c2]
  have vn : ∀ k s, ¬ (k = 152 ∧ s < 64) → ¬ (k = 80 ∧ (s = 110 ∨ s = 122)) → wg (bgW W (s0 : Int)) k s = wg W k s := fun k s y1 y2 => by
    show (if k = 152 ∧ s < 64 then 0 else if k = 80 ∧ s = 110 then 0 else if k = 80 ∧ s = 122 then (s0 : Int) else W.1 k s) = _
    rw [if_neg y1, if_neg (by omega), if_neg (by omega)]
  have v2 : ∀ s, wg (bgW W (s0 : Int)) 152 s = wg W 152 s := fun s => by
    show (if 152 = 152 ∧ s < 64 then 0 else if 152 = 80 ∧ s = 110 then 0 else if 152 = 80 ∧ s = 122 then (s0 : Int) else W.1 152 s) = _
    by_cases y : s < 64
    · rw [if_pos ⟨rfl, y⟩, h0 s y]
    · rw [if_neg (fun z => y z.2), if_neg (by omega), if_neg (by omega)]
  have r10 : gI ρ 71 10 = (G : Int) := by
    rw [gr, if_neg (by omega), if_neg (by omega), if_neg (by omega), if_neg (by omega)]
    exact d10
  have v5 : wg (bgW W (s0 : Int)) 80 105 = (G : Int) := by
    rw [vn _ _ (by omega) (by omega)]
    omega
  have wl : wldC ρ (fun _ => 0) (bgW W (s0 : Int)) := by
    refine ⟨wldM_r hM (fun k s z => gn _ _ (by omega) (by omega)) (fun s z => gn _ _ (by omega) (by omega)) (fun k s z => ?_), wcV_q k4 (fun s z => gn _ _ (by omega) (by omega)) (fun _ => vn _ _ (by omega) (by omega)), wcQ_q k5 pk.2 (fun s z => gn _ _ (by omega) (by omega)) (fun _ => vn _ _ (by omega) (by omega)) (vn _ _ (by omega) (by omega)), ⟨?_, ?_, ?_, ?_, ?_⟩, wcG_q k7 (fun s => gn _ _ (by omega) (by omega)) (fun _ => vn _ _ (by omega) (by omega)), wcX_q k8 (fun s => gn _ _ (by omega) (by omega)) (fun _ => vn _ _ (by omega) (by omega)) (vn _ _ (by omega) (by omega)), ?_, ⟨fun i hi => ?_, fun i hi => ?_, ?_⟩, wcL_q k11 (ln _ _ (by decide)) (ln _ _ (by decide)) rfl⟩
    · by_cases y : k = 152
      · rw [y]
        exact v2 s
      · exact vn _ _ (by omega) (by omega)
    · rw [v5, r10]
    · show (0 : Int) = _
      rw [gr, if_neg (by omega), if_neg (by omega), if_neg (by omega), if_neg (by omega), gd _ _ (by omega) (by omega), gc, if_neg (by omega), if_neg (by omega), ga, if_neg (by omega), if_pos ⟨rfl, rfl⟩]
    · rw [vn _ _ (by omega) (by omega), gn _ _ (by omega) (by omega)]
      exact k6.2.2
    · show (s0 : Int) = _
      rw [gr, if_neg (by omega), if_neg (by omega), if_pos ⟨rfl, rfl⟩]
    · rw [vn _ _ (by omega) (by omega), gn _ _ (by omega) (by omega)]
      exact k10.2.1
    · unfold wcC
      rw [v5]
      have g27 : ∀ s, 768 ≤ s → s < 780 → gI ρ 27 s = gI d 27 s := fun s y1 y2 => by
        rw [gr, if_neg (by omega), if_neg (by omega), if_neg (by omega), if_neg (by omega)]
      refine ⟨fun i hi => ?_, fun i hi => ?_, fun i hi => ?_⟩
      · rw [g27 _ (by omega) (by omega)]
        exact dc.1 i hi
      · rw [g27 _ (by omega) (by omega)]
        exact dc.2.1 i hi
      · rw [g27 _ (by omega) (by omega)]
        exact dc.2.2 i hi
    · rw [vn _ _ (by omega) (by omega), k10.1, gr, if_neg (by omega), if_neg (by omega), if_neg (by omega), if_neg (by omega), gd _ _ (by omega) (by omega), gc, if_neg (by omega), if_pos ⟨rfl, by omega, by omega⟩, show 780 + i - 780 = i by omega, bys_get hi]
      rfl
    · rw [vn _ _ (by omega) (by omega), k10.2.1, gr, if_neg (by omega), if_neg (by omega), if_neg (by omega), if_neg (by omega), gd _ _ (by omega) (by omega), gc, if_pos ⟨rfl, by omega, by omega⟩, show 784 + i - 784 = i by omega, bys_get hi]
      rfl
    · rw [vn _ _ (by omega) (by omega)]
      exact k10.2.2
  refine ⟨ρ, ?_, RelC_0 wl (by rw [gr, if_pos ⟨rfl, rfl⟩]) (by rw [lr, if_neg (by omega), if_pos ⟨rfl, rfl⟩]) (by rw [lr, if_pos ⟨rfl, rfl⟩]), ?_, ?_, ?_, ⟨fun k s z => gn _ _ (by omega) (by omega), fun k s z _ => ln _ _ (by omega), ?_⟩, MM_b (MM_b (MM_b (MM_b ba t1) t2) t3) t4⟩
  · have t1 : MM 180 [mR (some 71), mI 12, mL (iL (gI σ 71 11))] a = some (none, b) := t1
    have t2 : MM 180 [mR (some 71), mI 16, mL (iL (gI σ 71 12))] b = some (none, c) := t2
    have a11 : gI a 71 11 = gI σ 71 11 := by rw [ga, if_neg (by omega), if_neg (by omega)]
    have b12 : gI b 71 12 = gI σ 71 12 := by rw [hb, wzS_g, if_neg (by omega), ga, if_neg (by omega), if_neg (by omega)]
    have c10 : gI c 71 10 = (G : Int) := by rw [gc, if_neg (by omega), if_neg (by omega), ga, if_neg (by omega), if_neg (by omega)]; exact eG
    rw [M179, e179_0, ← ha, a11, t1]
    simp only [Option.getD_some, Option.bind_some, Option.toList_some, Option.toList_none, List.cons_append, List.nil_append, and_self, and_true, true_and, false_and, and_false, ite_self, not_true_eq_false, not_false_eq_true, reduceIte, Nat.reduceEqDiff, ab_I, ab_L, ab_R, ao_I, ao_L, ao_R, gL_sL, gI_sI, gR_sR, gI_sL, gI_sR, gL_sI, gL_sR, gR_sI, gR_sL]
    rw [e179_26, b12, t2]
    simp only [Option.getD_some, Option.bind_some, Option.toList_some, Option.toList_none, List.cons_append, List.nil_append, and_self, and_true, true_and, false_and, and_false, ite_self, not_true_eq_false, not_false_eq_true, reduceIte, Nat.reduceEqDiff, ab_I, ab_L, ab_R, ao_I, ao_L, ao_R, gL_sL, gI_sI, gR_sR, gI_sL, gI_sR, gL_sI, gL_sR, gR_sI, gR_sL]
    rw [e179_37, c10, t3]
    simp only [Option.getD_some, Option.bind_some, Option.toList_some, Option.toList_none, List.cons_append, List.nil_append, and_self, and_true, true_and, false_and, and_false, ite_self, not_true_eq_false, not_false_eq_true, reduceIte, Nat.reduceEqDiff, ab_I, ab_L, ab_R, ao_I, ao_L, ao_R, gL_sL, gI_sI, gR_sR, gI_sL, gI_sR, gL_sI, gL_sR, gR_sI, gR_sL]
    rw [e179_45, t4]
    simp only [Option.getD_some, Option.bind_some, Option.toList_some, Option.toList_none, List.cons_append, List.nil_append, and_self, and_true, true_and, false_and, and_false, ite_self, not_true_eq_false, not_false_eq_true, reduceIte, Nat.reduceEqDiff, ab_I, ab_L, ab_R, ao_I, ao_L, ao_R, gL_sL, gI_sI, gR_sR, gI_sL, gI_sR, gL_sI, gL_sR, gR_sI, gR_sL]
    rw [e179_50]
  · rw [gr, if_neg (by omega), if_neg (by omega), if_neg (by omega), if_neg (by omega), gd _ _ (by omega) (by omega), gc, if_neg (by omega), if_neg (by omega), ga, if_pos ⟨rfl, rfl⟩]
  · rw [gr, if_neg (by omega), if_pos ⟨rfl, rfl⟩]
  · rw [gr, if_neg (by omega), if_neg (by omega), if_pos ⟨rfl, rfl⟩]
  · rw [r2, d2, c2]
/-- cells that wait are free -/
theorem T56 : ∃ τ, MM 56 [mR (some 26)] σ = some (none, τ) ∧ τ.2 = σ.2 ∧ ∀ k s, gI τ k s = if ¬ gI σ 26 12 = 0 ∧ k = 37 ∧ s < 256 ∧ gI σ 37 s = 2 ∧ gI σ 30 (s / 32) = 1 then 0 else if ¬ gI σ 26 12 = 0 ∧ k = 26 ∧ s = 12 then 0 else gI σ k s := by
  by_cases l0 : gI σ 26 12 = 0
  · refine ⟨σ, ?_, rfl, fun k s => by rw [if_neg (fun z => z.1 l0), if_neg (fun z => z.1 l0)]⟩
    rw [M56, e56_0, if_neg (not_not_intro l0)]
  · obtain ⟨υ, hυ⟩ : ∃ υ, υ = sI σ 26 12 0 := ⟨_, rfl⟩
    have key : ∀ (f j : Nat) (ρ : MS), j + f = 256 → ρ.2 = σ.2 → (∀ k s, gI ρ k s = if k = 37 ∧ s < j ∧ gI σ 37 s = 2 ∧ gI σ 30 (s / 32) = 1 then 0 else if k = 26 ∧ s = 12 then 0 else gI σ k s) →
        ∃ τ, RR (lkB tb56) (B56_15, [some (mR (some 26)), some (mI (j : Int))], [], ρ) = some (none, τ) ∧ τ.2 = σ.2 ∧ ∀ k s, gI τ k s = if k = 37 ∧ s < 256 ∧ gI σ 37 s = 2 ∧ gI σ 30 (s / 32) = 1 then 0 else if k = 26 ∧ s = 12 then 0 else gI σ k s := by
      intro f
      induction f with
      | zero =>
        intro j ρ z r2 r
        have z : j = 256 := by omega
        subst z
        refine ⟨ρ, ?_, r2, r⟩
        rw [e56_15, if_pos (by decide)]
      | succ f ih =>
        intro j ρ z r2 r
        have nl : ¬ (256 : Int) ≤ (j : Int) := by omega
        have b0 : 0 ≤ (j : Int) ∧ (j : Int) < 256 := by omega
        have b3 : 0 ≤ ((j / 32 : Nat) : Int) ∧ ((j / 32 : Nat) : Int) < 8 := by omega
        have s3 : -2147483648 ≤ ((j / 32 : Nat) : Int) ∧ ((j / 32 : Nat) : Int) < 2147483648 := by omega
        have z1 : j + 1 + f = 256 := by omega
        have j3 : j < 100000 := by omega
        have r37 : gI ρ 37 j = gI σ 37 j := by rw [r, if_neg (by omega), if_neg (by omega)]
        have r30 : gI ρ 30 (j / 32) = gI σ 30 (j / 32) := by rw [r, if_neg (by omega), if_neg (by omega)]
        have stay : ¬ (gI σ 37 j = 2 ∧ gI σ 30 (j / 32) = 1) → ∀ k s, gI ρ k s = if k = 37 ∧ s < j + 1 ∧ gI σ 37 s = 2 ∧ gI σ 30 (s / 32) = 1 then 0 else if k = 26 ∧ s = 12 then 0 else gI σ k s := fun no k s => by
          rw [r]
          by_cases q : k = 37 ∧ s < j ∧ gI σ 37 s = 2 ∧ gI σ 30 (s / 32) = 1
          · rw [if_pos q, if_pos ⟨q.1, by omega, q.2.2⟩]
          · rw [if_neg q]
            by_cases q2 : k = 37 ∧ s < j + 1 ∧ gI σ 37 s = 2 ∧ gI σ 30 (s / 32) = 1
            · have e : s = j := by
                refine Decidable.byContradiction fun ne => q ⟨q2.1, by omega, q2.2.2⟩
              rw [e] at q2
              exact absurd q2.2.2 no
            · rw [if_neg q2]
        have dv : w32 (Int.tdiv (j : Int) 32) = ((j / 32 : Nat) : Int) := by
          rw [show Int.tdiv (j : Int) 32 = ((j / 32 : Nat) : Int) from rfl, w32_i s3.1 s3.2]
        have ww : w32 ((j : Int) + 1) = ((j + 1 : Nat) : Int) := w32_s j3
        by_cases y2 : gI σ 37 j = 2
        · by_cases y1 : gI σ 30 (j / 32) = 1
          · obtain ⟨τ, t, t1⟩ := ih (j + 1) (sI ρ 37 j 0) z1 r2 fun k s => by
              rw [gI_sI]
              by_cases q : k = 37 ∧ s = j
              · rw [if_pos q, if_pos ⟨q.1, by rw [q.2]; exact Nat.lt_succ_self j, by rw [q.2]; exact y2, by rw [q.2]; exact y1⟩]
              · rw [if_neg q, r]
                by_cases q1 : k = 37 ∧ s < j ∧ gI σ 37 s = 2 ∧ gI σ 30 (s / 32) = 1
                · rw [if_pos q1, if_pos ⟨q1.1, Nat.lt_succ_of_lt q1.2.1, q1.2.2⟩]
                · rw [if_neg q1, if_neg (show ¬ (k = 37 ∧ s < j + 1 ∧ gI σ 37 s = 2 ∧ gI σ 30 (s / 32) = 1) from fun z => q1 ⟨z.1, Nat.lt_of_le_of_ne (Nat.le_of_lt_succ z.2.1) (fun y => q ⟨z.1, y⟩), z.2.2⟩)]
            refine ⟨τ, ?_, t1⟩
            have z8 : w8 0 = 0 := by decide
            rw [e56_15, if_neg nl]
            simp only [Option.getD_some, Option.bind_some, Option.toList_some, Option.toList_none, List.cons_append, List.nil_append, and_self, and_true, true_and, false_and, and_false, ite_self, not_true_eq_false, not_false_eq_true, reduceIte, Nat.reduceEqDiff, ab_I, ab_L, ab_R, ao_I, ao_L, ao_R, gL_sL, gI_sI, gR_sR, gI_sL, gI_sR, gL_sI, gL_sR, gR_sI, gR_sL, g_37, b0.1, b0.2, Int.toNat_natCast, r37, y2, dv, g_30, b3.1, b3.2, r30, y1, z8, e56_52, ww]
            exact t
          · obtain ⟨τ, t, t1⟩ := ih (j + 1) ρ z1 r2 (stay (fun z => y1 z.2))
            refine ⟨τ, ?_, t1⟩
            rw [e56_15, if_neg nl]
            simp only [Option.getD_some, Option.bind_some, Option.toList_some, Option.toList_none, List.cons_append, List.nil_append, and_self, and_true, true_and, false_and, and_false, ite_self, not_true_eq_false, not_false_eq_true, reduceIte, Nat.reduceEqDiff, ab_I, ab_L, ab_R, ao_I, ao_L, ao_R, gL_sL, gI_sI, gR_sR, gI_sL, gI_sR, gL_sI, gL_sR, gR_sI, gR_sL, g_37, b0.1, b0.2, Int.toNat_natCast, r37, y2, dv, g_30, b3.1, b3.2, r30, y1, not_false_eq_true, if_true, e56_52, ww]
            exact t
        · obtain ⟨τ, t, t1⟩ := ih (j + 1) ρ z1 r2 (stay (fun z => y2 z.1))
          refine ⟨τ, ?_, t1⟩
          rw [e56_15, if_neg nl]
          simp only [Option.getD_some, Option.bind_some, Option.toList_some, Option.toList_none, List.cons_append, List.nil_append, and_self, and_true, true_and, false_and, and_false, ite_self, not_true_eq_false, not_false_eq_true, reduceIte, Nat.reduceEqDiff, ab_I, ab_L, ab_R, ao_I, ao_L, ao_R, gL_sL, gI_sI, gR_sR, gI_sL, gI_sR, gL_sI, gL_sR, gR_sI, gR_sL, g_37, b0.1, b0.2, Int.toNat_natCast, r37, y2, not_false_eq_true, if_true, e56_52, ww]
          exact t
    obtain ⟨τ, t, t2, t3⟩ := key 256 0 υ (by omega) (by rw [hυ]; rfl) fun k s => by
      rw [hυ, gI_sI, if_neg (show ¬ (k = 37 ∧ s < 0 ∧ gI σ 37 s = 2 ∧ gI σ 30 (s / 32) = 1) by omega)]
    refine ⟨τ, ?_, t2, fun k s => ?_⟩
    · rw [M56, e56_0, if_pos l0, ← hυ]
      exact t
    · rw [t3]
      by_cases q : k = 37 ∧ s < 256 ∧ gI σ 37 s = 2 ∧ gI σ 30 (s / 32) = 1
      · rw [if_pos q, if_pos ⟨l0, q⟩]
      · rw [if_neg q, if_neg (show ¬ (¬ gI σ 26 12 = 0 ∧ k = 37 ∧ s < 256 ∧ gI σ 37 s = 2 ∧ gI σ 30 (s / 32) = 1) from fun z => q z.2)]
        by_cases q2 : k = 26 ∧ s = 12
        · rw [if_pos q2, if_pos ⟨l0, q2⟩]
        · rw [if_neg q2, if_neg (show ¬ (¬ gI σ 26 12 = 0 ∧ k = 26 ∧ s = 12) from fun z => q2 z.2)]
/-- the end of a run -/
theorem E179 (h : RelC σ φ r) (hI : invW (cW r)) (h0 : ∀ i, i < 64 → wg (cW r) 152 i = 0) : ∃ τ, RR (lkB tb179) (B179_107, [some (mR (some 71)), some (mI x1), some (mI x2), some (mL x3), none, some (mI i)], [], σ) = some (some (mI (lI ((cW r).2.2 - x3))), τ) ∧ wldO τ (edW (cW r)) ∧ gL τ 71 14 = gL σ 76 0 ∧ (∀ k s, ¬ (k = 37 ∨ (k = 26 ∧ s = 12) ∨ (k = 71 ∧ s = 11)) → gI τ k s = gI σ k s) ∧ (∀ k s, ¬ (k = 71 ∧ s = 14) → gL τ k s = gL σ k s) ∧ τ.2.2 = σ.2.2 := by
  obtain ⟨_, _, _, _, _, hM, k4, k5, k6, k7, k8, k9, k10, k11⟩ := h
  have pk := hI.2.2.2.1.1
  obtain ⟨a, ha⟩ : ∃ a, a = sL σ 71 14 (gL σ 76 0) := ⟨_, rfl⟩
  have ga : ∀ k s, gI a k s = gI σ k s := fun k s => by rw [ha]; rfl
  have la : ∀ k s, ¬ (k = 71 ∧ s = 14) → gL a k s = gL σ k s := fun k s z => by rw [ha, gL_sL, if_neg z]
  have t16 := T16r (σ := a) (p := 780) (n := 4) (by decide)
  have em : leN (rmC a 780 4) = BitVec.ofInt 64 (wg (cW r) 80 106) &&& cF := ctx4 (fun b hb => (ga _ _).trans (k10.1 b hb))
  have lm : lI (BitVec.ofInt 64 (wg (cW r) 80 106) &&& cF) = wg (cW r) 80 106 := by
    have rg := k10.2.2
    rw [low4, lI_low (by rw [BitVec.toNat_ofInt]; omega)]
    have e : ((BitVec.ofInt 64 (wg (cW r) 80 106 % 4294967296)).toNat : Int) = wg (cW r) 80 106 % 4294967296 := by
      rw [BitVec.toNat_ofInt]
      omega
    split <;> omega
  rw [em] at t16
  obtain ⟨b, hb⟩ : ∃ b, b = sI a 71 11 (wg (cW r) 80 106) := ⟨_, rfl⟩
  have gb : ∀ k s, gI b k s = if k = 71 ∧ s = 11 then wg (cW r) 80 106 else gI σ k s := fun k s => by rw [hb, gI_sI, ga]
  have lb : ∀ k s, ¬ (k = 71 ∧ s = 14) → gL b k s = gL σ k s := fun k s z => by rw [hb, gL_sI]; exact la k s z
  obtain ⟨τ, t, t2, g⟩ := T56 (σ := b)
  have lg := gL_2 t2
  have b26 : gI b 26 12 = gI σ 26 12 := by rw [gb, if_neg (by omega)]
  have b37 : ∀ s, gI b 37 s = gI σ 37 s := fun s => by rw [gb, if_neg (by omega)]
  have b30 : ∀ s, gI b 30 s = gI σ 30 s := fun s => by rw [gb, if_neg (by omega)]
  rw [b26] at g
  have gn : ∀ k s, ¬ (k = 37 ∨ (k = 26 ∧ s = 12) ∨ (k = 71 ∧ s = 11)) → gI τ k s = gI σ k s := fun k s z => by
    rw [g, if_neg (by omega), if_neg (by omega), gb, if_neg (by omega)]
  have g37 : ∀ s, gI τ 37 s = if ¬ gI σ 26 12 = 0 ∧ s < 256 ∧ gI σ 37 s = 2 ∧ gI σ 30 (s / 32) = 1 then 0 else gI σ 37 s := fun s => by
    rw [g, b37, b30]
    by_cases q : ¬ gI σ 26 12 = 0 ∧ s < 256 ∧ gI σ 37 s = 2 ∧ gI σ 30 (s / 32) = 1
    · rw [if_pos ⟨q.1, rfl, q.2⟩, if_pos q]
    · rw [if_neg (fun z => q ⟨z.1, z.2.2⟩), if_neg q, if_neg (by omega)]
  have vn : ∀ k s, ¬ (k = 104 ∨ k = 105) → wg (edW (cW r)) k s = wg (cW r) k s := fun k s z => by
    show (if k = 104 ∧ s < 256 then _ else if k = 105 ∧ s < 256 then 0 else (cW r).1 k s) = _
    rw [if_neg (by omega), if_neg (by omega)]
  have v4 : ∀ s, s < 256 → wg (edW (cW r)) 104 s = if ¬ wg (cW r) 105 s = 0 then 0 else wg (cW r) 104 s % 2 := fun s hs => by
    show (if 104 = 104 ∧ s < 256 then (if ¬ (cW r).1 105 s = 0 then 0 else (cW r).1 104 s % 2) else _) = _
    rw [if_pos ⟨rfl, hs⟩]
  have v5 : ∀ s, s < 256 → wg (edW (cW r)) 105 s = 0 := fun s hs => by
    show (if 105 = 104 ∧ s < 256 then (if ¬ (cW r).1 105 s = 0 then 0 else (cW r).1 104 s % 2) else if 105 = 105 ∧ s < 256 then 0 else (cW r).1 105 s) = 0
    rw [if_neg (by omega), if_pos ⟨rfl, hs⟩]
  have hl : ∀ m, hldR (edW (cW r)) m = hldR (cW r) m := fun m => hld_e (fun s => vn _ _ (by omega)) (fun s => vn _ _ (by omega))
  refine ⟨τ, ?_, ⟨⟨fun m hm => ?_, fun i hi z => absurd (h0 i hi) (by rw [vn _ _ (by omega)] at z; exact z), fun i j hi hj z => absurd (h0 i hi) (by rw [vn _ _ (by omega)] at z; exact z)⟩, fun i hi => by rw [vn _ _ (by omega)]; exact h0 i hi, wcV_q k4 (fun s z => gn _ _ (by omega)) (fun s => vn _ _ (by omega)), wcQ_q k5 pk.2 (fun s z => gn _ _ (by omega)) (fun s => vn _ _ (by omega)) (vn _ _ (by omega)), ⟨?_, ?_, ?_⟩, wcG_q k7 (fun s => gn _ _ (by omega)) (fun s => vn _ _ (by omega)), wcX_q k8 (fun s => gn _ _ (by omega)) (fun s => vn _ _ (by omega)) (vn _ _ (by omega)), ⟨?_, ?_, ?_⟩, wcL_q k11 ((lg _ _).trans (lb _ _ (by omega))) ((lg _ _).trans (lb _ _ (by omega))) rfl⟩, ?_, gn, fun k s z => (lg _ _).trans (lb _ _ z), ?_⟩
  · have i0 : (0 : Int).toNat = 0 := rfl
    have t16 : MM 16 [mR (some 27), mI 780, mI 4] a = some (some (mL (BitVec.ofInt 64 (wg (cW r) 80 106) &&& cF)), a) := t16
    rw [e179_107]
    simp only [Option.getD_some, Option.bind_some, Option.toList_some, Option.toList_none, List.cons_append, List.nil_append, and_self, and_true, true_and, false_and, and_false, ite_self, not_true_eq_false, not_false_eq_true, reduceIte, Nat.reduceEqDiff, ab_I, ab_L, ab_R, ao_I, ao_L, ao_R, gL_sL, gI_sI, gR_sR, gI_sL, gI_sR, gL_sI, gL_sR, gR_sI, gR_sL, g_76, Int.reduceLE, Int.reduceLT, i0, ← ha, t16]
    rw [e179_132, lm, ← hb, t]
    simp only [Option.getD_some, Option.bind_some, Option.toList_some, Option.toList_none, List.cons_append, List.nil_append, and_self, and_true, true_and, false_and, and_false, ite_self, not_true_eq_false, not_false_eq_true, reduceIte, Nat.reduceEqDiff, ab_I, ab_L, ab_R, ao_I, ao_L, ao_R, gL_sL, gI_sI, gR_sR, gI_sL, gI_sR, gL_sI, gL_sR, gR_sI, gR_sL]
    rw [e179_143, lg, lb _ _ (by omega), ← k11.2]
  · obtain ⟨a1, a2, a3, a4, a5, a6⟩ := hM.1 m hm
    obtain ⟨_, c2, _⟩ := a1
    have no37 : ¬ wg (cW r) 96 m = 1 → ∀ i, i < 32 → gI τ 37 (32 * m + i) = gI σ 37 (32 * m + i) := fun z i hi => by
      rw [g37, if_neg (fun y => z ?_)]
      have := y.2.2.2
      rw [show (32 * m + i) / 32 = m by omega] at this
      exact c2.trans this
    have n37 : ¬ wg (cW r) 96 m = 1 → ∀ s, s / 32 = m → gI τ 37 s = gI σ 37 s := fun z s hs => by
      have := no37 z (s - 32 * m) (by omega)
      rwa [show 32 * m + (s - 32 * m) = s by omega] at this
    refine ⟨wcK_q (hM.1 m hm).1 (fun k z => gn _ _ (by omega)) (fun k z => vn _ _ (by omega)), fun z => ?_, wcP_q a3 (fun k s z => gn _ _ (by omega)) (fun k s z => vn _ _ (by omega)), fun z => ?_, fun z => ?_, fun z => ?_⟩
    · rw [vn _ _ (by omega)] at z
      obtain ⟨⟨u1, u0⟩, u2, u3⟩ := a2 z
      refine ⟨⟨?_, ?_⟩, fun e he => ?_, fun i hi => ?_⟩
      · rw [vn _ _ (by omega), gn _ _ (by omega)]
        exact u1
      · rw [vn _ _ (by omega)]
        exact u0
      · rw [vn _ _ (by omega)] at he
        obtain ⟨⟨q4, q5, q6⟩, q7, q8, q9⟩ := u2 e he
        rw [vn 103 _ (by omega), gn 35 _ (by omega)]
        refine ⟨⟨q4, q5, q6⟩, ?_, fun e' he' y => ?_, fun k hk hz => ?_⟩
        · rw [g37, q7, if_neg (by omega)]
        · rw [vn _ _ (by omega)] at he' y
          exact q8 e' he' y
        · rw [vn _ _ (by omega)] at hz
          rw [vn _ _ (by omega), gn _ _ (by omega)]
          exact q9 k hk hz
      · obtain ⟨x1, x2, x3, x4⟩ := u3 i hi
        rw [v4 _ (by omega), v5 _ (by omega), g37]
        have k30 : gI σ 30 ((32 * m + i) / 32) = 1 := by
          rw [show (32 * m + i) / 32 = m by omega, ← c2]
          exact z
        by_cases y : gI σ 37 (32 * m + i) = 2
        · have l1 := x3 y
          rw [if_pos (x2.mpr y), if_pos ⟨l1, by omega, y, k30⟩]
          exact ⟨Iff.rfl, ⟨fun z => absurd rfl z, fun z => absurd z (by decide)⟩, fun z => absurd z (by decide), Or.inl rfl⟩
        · rw [if_neg (fun z => y (x2.mp z)), if_neg (fun z => y z.2.2.1)]
          refine ⟨⟨fun z => x1.mp (by omega), fun z => by rw [x1.mpr z]; rfl⟩, ⟨fun z => absurd rfl z, fun z => absurd z y⟩, fun z => absurd z y, by omega⟩
    · rw [vn _ _ (by omega)] at z
      have n1 : ¬ wg (cW r) 96 m = 1 := by omega
      have := wcR_q (τ := τ) (V := edW (cW r)) a4 (fun k s y => by
        by_cases q : k = 37
        · rw [q]
          exact n37 n1 s (by omega)
        · exact gn _ _ (by omega)) (fun _ e b he hb => gn _ _ (by omega)) (fun k s y => vn _ _ (by omega)) (hl m)
      exact this (by rw [vn _ _ (by omega)]; exact z)
    · rw [vn _ _ (by omega)] at z
      have n1 : ¬ wg (cW r) 96 m = 1 := by omega
      intro i hi y
      rw [no37 n1 i hi] at y
      obtain ⟨q1, q2⟩ := a5 z i hi y
      refine ⟨q1, ?_⟩
      rcases q2 with ⟨j, j1, j2, _⟩ | ⟨e, e1, e2⟩
      · exact absurd (h0 j j1) j2
      · exact Or.inr ⟨e, by rw [vn _ _ (by omega)]; exact e1, by rw [gn _ _ (by omega)]; exact e2⟩
    · rw [vn _ _ (by omega)] at z
      obtain ⟨⟨q1, q2, q3, q4⟩, q5, q6⟩ := a6 z
      have n1 : ¬ wg (cW r) 96 m = 1 := by omega
      refine ⟨⟨by rw [vn _ _ (by omega)]; exact q1, by rw [vn _ _ (by omega)]; exact q2, by rw [vn _ _ (by omega)]; exact q3, by rw [gn _ _ (by omega)]; exact q4⟩, fun i hi => ?_, fun x hx => by rw [vn _ _ (by omega)]; exact q6 x hx⟩
      obtain ⟨y1, y2, y3⟩ := q5 i hi
      refine ⟨?_, v5 _ (by omega), ?_⟩
      · rw [v4 _ (by omega), y1]
        split <;> rfl
      · rw [no37 n1 i hi]
        exact y3
  · rw [vn _ _ (by omega), gn _ _ (by omega)]
    exact k6.1
  · rw [vn _ _ (by omega), gn _ _ (by omega)]
    exact k6.2.1
  · rw [vn _ _ (by omega), gn _ _ (by omega)]
    exact k6.2.2.1
  · rw [vn _ _ (by omega), g, if_neg (by omega), if_neg (by omega), gb, if_pos ⟨rfl, rfl⟩]
  · rw [vn _ _ (by omega), gn _ _ (by omega)]
    exact k6.2.2.2.2
  · rw [vn _ _ (by omega)]
    exact k10.2.2
  · rw [lg, hb, gL_sI, ha, gL_sL, if_pos ⟨rfl, rfl⟩]
  · rw [t2, hb]
    show a.2.2 = _
    rw [ha]
    rfl
end CRUN
