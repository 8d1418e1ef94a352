/-! ===== the class's runs: a new record ===== -/
/-- a record's cell is taken -/
def nrcC (σ : MS) (m c : Nat) (y : Int) : MS := wzS (sI (sI (sI σ 38 m (gI σ 38 m + 1)) 37 (32 * m + c) 1) 36 (16 * m + c) y) 27 (17172 + 64 * (16 * m + c)) (List.replicate 64 0)
section CREC
variable {σ τ ρ : MS} {W V : WR} {m n p q p0 e j i c z N : Nat} {L : List B64} {y k : Int} {E : EV} {φ : Nat → Nat} {x : B64}
theorem wldA_v (h : wldA σ W) (pk : wg W 80 105 ≤ 256) (h1 : ∀ k s, (k = 16 ∨ k = 79 ∨ (k = 27 ∧ ¬ (256 ≤ s ∧ s < 768) ∧ s < 17172) ∨ (k = 71 ∧ (s = 7 ∨ s = 10 ∨ s = 12 ∨ s = 15 ∨ s = 18))) → gI τ k s = gI σ k s) (h2 : gL τ 71 13 = gL σ 71 13) (h3 : gL τ 71 16 = gL σ 71 16)
    (hW : ∀ k s, k = 80 ∨ k = 85 ∨ k = 100 ∨ k = 144 ∨ k = 145 → wg V k s = wg W k s) (hV : V.2 = W.2) : wldA τ V := by
  obtain ⟨k4, k5, k6, k7, k8, k9, k10, k11⟩ := h
  exact ⟨wcV_q k4 (fun s z => h1 _ _ (by omega)) (fun _ => hW _ _ (by omega)), wcQ_q k5 pk (fun s z => h1 _ _ (by omega)) (fun _ => hW _ _ (by omega)) (hW _ _ (by omega)), wcZ_q k6 (fun s z => h1 _ _ (by omega)) (fun _ _ => hW _ _ (by omega)), wcG_q k7 (fun s => h1 _ _ (by omega)) (fun _ => hW _ _ (by omega)), wcX_q k8 (fun s => h1 _ _ (by omega)) (fun _ => hW _ _ (by omega)) (hW _ _ (by omega)), wcC_q k9 (fun s z => h1 _ _ (by omega)) (hW _ _ (by omega)), wcY_q k10 (fun s z => h1 _ _ (by omega)) (fun _ _ => hW _ _ (by omega)), wcL_q k11 h2 h3 hV⟩
theorem T58n (hm : m < 8) (b4 : 0 ≤ gI σ 34 m ∧ gI σ 34 m ≤ 16) (b8 : 0 ≤ gI σ 38 m ∧ gI σ 38 m ≤ 64) (h : ¬ gI σ 34 m + gI σ 38 m < gI σ 33 m) : MM 58 [mR (some 26), mI (m : Int), mI y] σ = some (some (mI (-1)), σ) := by
  have b0 : 0 ≤ (m : Int) ∧ (m : Int) < 8 := by omega
  have w1 : w32 (gI σ 34 m + gI σ 38 m) = gI σ 34 m + gI σ 38 m := w32_i (by omega) (by omega)
  rw [M58, e58_0]
  simp only [Option.getD_some, Option.bind_some, Option.toList_some, Option.toList_none, List.cons_append, List.nil_append, and_self, and_true, true_and, false_and, and_false, ite_self, not_true_eq_false, not_false_eq_true, reduceIte, Nat.reduceEqDiff, ab_I, ab_L, ab_R, ao_I, ao_L, ao_R, gL_sL, gI_sI, gR_sR, gI_sL, gI_sR, gL_sI, gL_sR, gR_sI, gR_sL, g_33, g_34, g_38, b0.1, b0.2, Int.toNat_natCast, w1, h, if_false]
theorem T58s (hm : m < 8) (b4 : 0 ≤ gI σ 34 m ∧ gI σ 34 m ≤ 16) (b8 : 0 ≤ gI σ 38 m ∧ gI σ 38 m ≤ 64) (h : gI σ 34 m + gI σ 38 m < gI σ 33 m) (qf : freC σ m = some c) (hc : c < 16) : MM 58 [mR (some 26), mI (m : Int), mI y] σ = some (some (mI ((17172 + 64 * (16 * m + c) : Nat) : Int)), nrcC σ m c y) := by
  have b0 : 0 ≤ (m : Int) ∧ (m : Int) < 8 := by omega
  have t53 := T53 (σ := σ) hm
  have i1 : ioN (some c) = (c : Int) := rfl
  rw [qf, i1] at t53
  have c0 : ¬ (c : Int) < 0 := by omega
  have c1 : (c : Int) < 16 := by omega
  have b7 : 0 ≤ ((32 * m + c : Nat) : Int) ∧ ((32 * m + c : Nat) : Int) < 256 := by omega
  have b6 : 0 ≤ ((16 * m + c : Nat) : Int) ∧ ((16 * m + c : Nat) : Int) < 128 := by omega
  obtain ⟨υ, hυ⟩ : ∃ υ, υ = sI (sI (sI σ 38 m (gI σ 38 m + 1)) 37 (32 * m + c) 1) 36 (16 * m + c) y := ⟨_, rfl⟩
  obtain ⟨P, hP⟩ : ∃ P, P = 17172 + 64 * (16 * m + c) := ⟨_, rfl⟩
  have t43 := T43m (σ := υ) (c := c) hm hc
  rw [← hP] at t43
  have tf := T582 (σ := υ) (a := P) (n := 64) (y := 0) (by omega)
  rw [show w8 0 = 0 by decide] at tf
  have p64 : -2147483648 ≤ (P : Int) + 64 ∧ (P : Int) + 64 < 2147483648 := by omega
  have i2 : -2147483648 ≤ gI σ 34 m + gI σ 38 m ∧ gI σ 34 m + gI σ 38 m < 2147483648 := by omega
  have i3 : -2147483648 ≤ gI σ 38 m + 1 ∧ gI σ 38 m + 1 < 2147483648 := by omega
  have w0 : w32 (gI σ 34 m + gI σ 38 m) = gI σ 34 m + gI σ 38 m := w32_i i2.1 i2.2
  have w4 : w32 (gI σ 38 m + 1) = gI σ 38 m + 1 := w32_i i3.1 i3.2
  have w1 : w32 (w32 ((m : Int) * 32) + (c : Int)) = ((32 * m + c : Nat) : Int) := by
    rw [w32_i (x := (m : Int) * 32) (by omega) (by omega), w32_i (by omega) (by omega)]
    omega
  have w2 : w32 (w32 ((m : Int) * 16) + (c : Int)) = ((16 * m + c : Nat) : Int) := by
    rw [w32_i (x := (m : Int) * 16) (by omega) (by omega), w32_i (by omega) (by omega)]
    omega
  have w3 : w32 ((P : Int) + 64) = ((P + 64 : Nat) : Int) := by
    rw [w32_i p64.1 p64.2]
    rfl
  have w8' : w8 1 = 1 := by decide
  have en : wzS υ 27 P (List.replicate 64 0) = nrcC σ m c y := by
    unfold nrcC
    rw [hυ, hP]
  rw [← hP, M58, e58_0]
  simp only [Option.getD_some, Option.bind_some, Option.toList_some, Option.toList_none, List.cons_append, List.nil_append, and_self, and_true, true_and, false_and, and_false, ite_self, not_true_eq_false, not_false_eq_true, reduceIte, Nat.reduceEqDiff, ab_I, ab_L, ab_R, ao_I, ao_L, ao_R, gL_sL, gI_sI, gR_sR, gI_sL, gI_sR, gL_sI, gL_sR, gR_sI, gR_sL, g_33, g_34, g_38, b0.1, b0.2, Int.toNat_natCast, w0, h, if_true, t53, e58_29, c0, if_false, c1, g_37, g_36, w1, w2, b6.1, b6.2, b7.1, b7.2, w4, w8', ← hυ]
  rw [e58_76, t43]
  simp only [Option.getD_some, Option.bind_some, Option.toList_some, Option.toList_none, List.cons_append, List.nil_append, and_self, and_true, true_and, false_and, and_false, ite_self, not_true_eq_false, not_false_eq_true, reduceIte, Nat.reduceEqDiff, ab_I, ab_L, ab_R, ao_I, ao_L, ao_R, gL_sL, gI_sI, gR_sR, gI_sL, gI_sR, gL_sI, gL_sR, gR_sI, gR_sL]
  rw [e58_81, w3, tf]
  simp only [Option.getD_some, Option.bind_some, Option.toList_some, Option.toList_none, List.cons_append, List.nil_append, and_self, and_true, true_and, false_and, and_false, ite_self, not_true_eq_false, not_false_eq_true, reduceIte, Nat.reduceEqDiff, ab_I, ab_L, ab_R, ao_I, ao_L, ao_R, gL_sL, gI_sI, gR_sR, gI_sL, gI_sR, gL_sI, gL_sR, gR_sI, gR_sL, en]
  rw [e58_98]
theorem fre_16 (hO : wcO σ φ W m) (hR : wcR σ W m) (hH : ∀ i, i < 64 → wcH σ φ W i) (k3 : wg W 96 m = 3) (h : (wg W 107 m).toNat + hldR W m < 16) : ∃ c, freC σ m = some c ∧ c < 16 ∧ gI σ 37 (32 * m + c) = 0 := by
  have some_ : ∃ i, i < 16 ∧ gI σ 37 (32 * m + i) = 0 := Decidable.byContradiction fun no => by
    obtain ⟨⟨r1, r0⟩, r2, r3⟩ := hR k3
    have all : ∀ i, i < 16 → ∃ h ∈ ((List.range 64).filter fun i => decide (¬ wg W 152 i = 0 ∧ wg W 151 i = m)).map (fun j => (φ j : Int) - 16 * (m : Int)) ++ (List.range (wg W 107 m).toNat).map (fun e => gI σ 35 (16 * m + e)), h.toNat = i := fun i hi => by
      obtain ⟨_, q⟩ := hO k3 i (by omega) (fun z => no ⟨i, hi, z⟩)
      rcases q with ⟨j, j1, j2, j3⟩ | ⟨e, e1, e2⟩
      · obtain ⟨q1, q2, _, _, _, q6⟩ := hH j j1 j2
        refine ⟨(φ j : Int) - 16 * (m : Int), List.mem_append_left _ (List.mem_map.mpr ⟨j, List.mem_filter.mpr ⟨List.mem_range.mpr j1, decide_eq_true ⟨j2, by omega⟩⟩, rfl⟩), by omega⟩
      · exact ⟨gI σ 35 (16 * m + e), List.mem_append_right _ (List.mem_map.mpr ⟨e, List.mem_range.mpr (by omega), rfl⟩), by omega⟩
    have l := pig 16 _ (fun h => h.toNat) all
    rw [List.length_append, List.length_map, List.length_map, List.length_range] at l
    have e1 : hldR W m = ((List.range 64).filter fun i => decide (¬ wg W 152 i = 0 ∧ wg W 151 i = m)).length := rfl
    omega
  obtain ⟨i, i16, i0⟩ := some_
  cases qf : freC σ m with
  | none =>
    have := List.find?_eq_none.mp qf i (List.mem_range.mpr (by omega))
    exact absurd (decide_eq_true i0) this
  | some c =>
    obtain ⟨q1, q2, q3⟩ := List.find?_range_eq_some.mp qf
    refine ⟨c, rfl, ?_, of_decide_eq_true q1⟩
    refine Decidable.byContradiction fun z => ?_
    have := q3 i (by omega)
    rw [decide_eq_true i0] at this
    exact absurd this (by decide)
/-- a new record -/
theorem rec_C (h : wldC σ φ W) (hI : invW W) (hm : m < 8) (k3 : wg W 96 m = 3) (k95 : ¬ wg W 95 m = 0) (hf : ∃ i, i < 64 ∧ wg W 152 i = 0) (hy : 1 ≤ y ∧ y ≤ 64) :
    ∃ τ ψ v, MM 58 [mR (some 26), mI (m : Int), mI y] σ = some (some (mI v), τ) ∧ wldC τ ψ (recR W (m : Int) y).1 ∧ (∀ i, i < 64 → ¬ wg W 152 i = 0 → ψ i = φ i ∧ ¬ wg (recR W (m : Int) y).1 152 i = 0) ∧ τ.2 = σ.2 ∧ (∀ k s, ¬ (k = 36 ∨ k = 37 ∨ k = 38 ∨ (k = 27 ∧ 17172 ≤ s)) → gI τ k s = gI σ k s) ∧
      ((recR W (m : Int) y).2 = none ∧ v = -1 ∨ ∃ i, (recR W (m : Int) y).2 = some i ∧ i < 64 ∧ ¬ wg (recR W (m : Int) y).1 152 i = 0 ∧ v = ((17172 + 64 * ψ i : Nat) : Int)) := by
  have pk := hI.2.2.2.1.1.2
  have h' := h
  obtain ⟨⟨hM, hH, hJ⟩, hA⟩ := h'
  obtain ⟨a1, a2, a3, a4, a5, a6⟩ := hM m hm
  have a1' := a1
  obtain ⟨c1, c2, c3, c4, c5⟩ := a1'
  obtain ⟨⟨r1, r0⟩, r2, r3⟩ := a4 k3
  have i6 := hI.2.2.2.2.2.1 m hm
  have i9 := (hI.1 m hm).1.2.2.1
  unfold recR
  rw [Int.toNat_natCast]
  by_cases full : wg W 99 m ≤ wg W 107 m + (hldR W m : Int)
  · rw [if_pos full]
    refine ⟨σ, φ, -1, T58n hm (by omega) (by omega) (by omega), h, fun i _ z => ⟨rfl, z⟩, rfl, fun _ _ _ => rfl, Or.inl ⟨rfl, rfl⟩⟩
  · rw [if_neg full]
    cases q : (List.range 64).find? fun i => decide (wg W 152 i = 0) with
    | none =>
      exfalso
      obtain ⟨i, i1, i2⟩ := hf
      exact absurd (decide_eq_true i2) (List.find?_eq_none.mp q i (List.mem_range.mpr i1))
    | some i =>
      obtain ⟨q1, q2, _⟩ := List.find?_range_eq_some.mp q
      have i64 := List.mem_range.mp q2
      have z0 : wg W 152 i = 0 := of_decide_eq_true q1
      obtain ⟨c, qf, c16, cf⟩ := fre_16 a5 a4 hH k3 (by omega)
      have t := T58s (y := y) hm (by omega) (by omega) (by omega) qf c16
      obtain ⟨τ, hτ⟩ : ∃ τ, τ = nrcC σ m c y := ⟨_, rfl⟩
      obtain ⟨V, hV⟩ : ∃ V, V = wsL (wset (wset (wset W 152 i 1) 151 i (m : Int)) 150 i y) 149 (64 * i) (List.replicate 64 0) := ⟨_, rfl⟩
      show ∃ τ ψ v, MM 58 [mR (some 26), mI (m : Int), mI y] σ = some (some (mI v), τ) ∧ wldC τ ψ (wsL (wset (wset (wset W 152 i 1) 151 i (m : Int)) 150 i y) 149 (64 * i) (List.replicate 64 0)) ∧ (∀ j, j < 64 → ¬ wg W 152 j = 0 → ψ j = φ j ∧ ¬ wg (wsL (wset (wset (wset W 152 i 1) 151 i (m : Int)) 150 i y) 149 (64 * i) (List.replicate 64 0)) 152 j = 0) ∧ τ.2 = σ.2 ∧ (∀ k s, ¬ (k = 36 ∨ k = 37 ∨ k = 38 ∨ (k = 27 ∧ 17172 ≤ s)) → gI τ k s = gI σ k s) ∧
        (some i = none ∧ v = -1 ∨ ∃ i', some i = some i' ∧ i' < 64 ∧ ¬ wg (wsL (wset (wset (wset W 152 i 1) 151 i (m : Int)) 150 i y) 149 (64 * i) (List.replicate 64 0)) 152 i' = 0 ∧ v = ((17172 + 64 * ψ i' : Nat) : Int))
      rw [← hV]
      rw [← hτ] at t
      have g : ∀ k s, gI τ k s = if k = 27 ∧ 17172 + 64 * (16 * m + c) ≤ s ∧ s < 17172 + 64 * (16 * m + c) + 64 then 0 else if k = 36 ∧ s = 16 * m + c then y else if k = 37 ∧ s = 32 * m + c then 1 else if k = 38 ∧ s = m then gI σ 38 m + 1 else gI σ k s := fun k s => by
        rw [hτ]
        unfold nrcC
        rw [wzS_g, List.length_replicate, gI_sI, gI_sI, gI_sI]
        by_cases y1 : k = 27 ∧ 17172 + 64 * (16 * m + c) ≤ s ∧ s < 17172 + 64 * (16 * m + c) + 64
        · rw [if_pos y1, if_pos y1, rep_g (by omega)]
        · rw [if_neg y1, if_neg y1]
      have v : ∀ k s, wg V k s = if k = 149 ∧ 64 * i ≤ s ∧ s < 64 * i + 64 then 0 else if k = 150 ∧ s = i then y else if k = 151 ∧ s = i then (m : Int) else if k = 152 ∧ s = i then 1 else wg W k s := fun k s => by
        rw [hV]
        show (if k = 149 ∧ 64 * i ≤ s ∧ s < 64 * i + (List.replicate 64 (0 : Int)).length then (List.replicate 64 (0 : Int)).getD (s - 64 * i) 0 else wg (wset (wset (wset W 152 i 1) 151 i (m : Int)) 150 i y) k s) = _
        rw [List.length_replicate, wg_wset, wg_wset, wg_wset]
        by_cases y1 : k = 149 ∧ 64 * i ≤ s ∧ s < 64 * i + 64
        · rw [if_pos y1, if_pos y1, rep_g (by omega)]
        · rw [if_neg y1, if_neg y1]
      have g2 : τ.2 = σ.2 := by
        rw [hτ]
        unfold nrcC
        rw [wzS_2]
        rfl
      have lg := gL_2 g2
      have v2 : V.2 = W.2 := by rw [hV]; rfl
      have gn : ∀ k s, ¬ (k = 36 ∨ k = 37 ∨ k = 38 ∨ (k = 27 ∧ 17172 ≤ s)) → gI τ k s = gI σ k s := fun k s y => by
        rw [g, if_neg (by omega), if_neg (by omega), if_neg (by omega), if_neg (by omega)]
      have vn : ∀ k s, ¬ (149 ≤ k ∧ k ≤ 152) → wg V k s = wg W k s := fun k s y => by
        rw [v, if_neg (by omega), if_neg (by omega), if_neg (by omega), if_neg (by omega)]
      have vi : ∀ k j, 150 ≤ k → k ≤ 152 → ¬ j = i → wg V k j = wg W k j := fun k j y1 y2 y => by
        rw [v, if_neg (by omega), if_neg (by omega), if_neg (by omega), if_neg (by omega)]
      have u2 : wg V 152 i = 1 := by rw [v, if_neg (by omega), if_neg (by omega), if_neg (by omega), if_pos ⟨rfl, rfl⟩]
      have u1 : wg V 151 i = (m : Int) := by rw [v, if_neg (by omega), if_neg (by omega), if_pos ⟨rfl, rfl⟩]
      have u0 : wg V 150 i = y := by rw [v, if_neg (by omega), if_pos ⟨rfl, rfl⟩]
      have hl : ∀ j, hldR V j = hldR W j + (if j = m then 1 else 0) := fun j => hld_1 i64 (fun s z => vi 152 s (by decide) (by decide) z) (fun s z => vi 151 s (by decide) (by decide) z) z0 (by rw [u2]; decide) u1
      obtain ⟨ψ, hψ⟩ : ∃ ψ : Nat → Nat, ψ = fun j => if j = i then 16 * m + c else φ j := ⟨_, rfl⟩
      have ψi : ψ i = 16 * m + c := by rw [hψ]; exact if_pos rfl
      have ψn : ∀ j, ¬ j = i → ψ j = φ j := fun j z => by rw [hψ]; exact if_neg z
      have hd : ∀ j, j < 64 → ¬ wg W 152 j = 0 → ¬ j = i ∧ ¬ φ j = 16 * m + c := fun j hj z => by
        refine ⟨fun y => z (by rw [y]; exact z0), fun y => ?_⟩
        have := (hH j hj z).2.2.1
        rw [y, show 32 * ((16 * m + c) / 16) + (16 * m + c) % 16 = 32 * m + c by omega, cf] at this
        exact absurd this (by decide)
      have g7 : ∀ j, ¬ j = 32 * m + c → gI τ 37 j = gI σ 37 j := fun j z => by rw [g, if_neg (by omega), if_neg (by omega), if_neg (by omega), if_neg (by omega)]
      have g7c : gI τ 37 (32 * m + c) = 1 := by rw [g, if_neg (by omega), if_neg (by omega), if_pos ⟨rfl, rfl⟩]
      have g6 : ∀ j, ¬ j = 16 * m + c → gI τ 36 j = gI σ 36 j := fun j z => by rw [g, if_neg (by omega), if_neg (by omega), if_neg (by omega), if_neg (by omega)]
      have gb : ∀ j b, ¬ j = 16 * m + c → b < 64 → gI τ 27 (17172 + 64 * j + b) = gI σ 27 (17172 + 64 * j + b) := fun j b z hb => by rw [g, if_neg (by omega), if_neg (by omega), if_neg (by omega), if_neg (by omega)]
      refine ⟨τ, ψ, _, t, ⟨⟨fun j hj => ?_, fun j hj => ?_, fun j j' hj hj' z1 z2 e => ?_⟩, wldA_v hA pk (fun k s z => gn _ _ (by omega)) (lg _ _) (lg _ _) (fun k s z => vn _ _ (by omega)) v2⟩, fun j hj z => ?_, g2, gn, Or.inr ⟨i, rfl, i64, by rw [u2]; decide, by rw [ψi]⟩⟩
      · obtain ⟨b1, b2, b3, b4, b5, b6⟩ := hM j hj
        have nb1 : wcK τ V j := wcK_q b1 (fun k z => gn _ _ (by omega)) (fun k z => vn _ _ (by omega))
        by_cases ej : j = m
        · subst ej
          have v6 : wg V 96 j = 3 := (vn _ _ (by omega)).trans k3
          have v7 : wg V 107 j = wg W 107 j := vn _ _ (by omega)
          refine ⟨nb1, fun z => by omega, ⟨fun z => by omega, fun z => by omega⟩, fun _ => ⟨⟨?_, ?_⟩, ?_, fun e he => ?_⟩, fun _ x hx y => ?_, fun z => absurd ((vn 95 j (by omega)).symm.trans z) k95⟩
          · rw [v7, gn _ _ (by omega)]
            exact r1
          · rw [v7]
            exact r0
          · rw [hl, if_pos rfl, g, if_neg (by omega), if_neg (by omega), if_neg (by omega), if_pos ⟨rfl, rfl⟩]
            omega
          · rw [v7] at he
            obtain ⟨p1, p2, p3, p4, p5⟩ := r3 e he
            have nc : ¬ (gI σ 35 (16 * j + e)).toNat = c := fun y => by
              rw [y, cf] at p2
              exact absurd p2 (by decide)
            rw [gn 35 _ (by omega), g7 _ (by omega), g6 _ (by omega), vn 108 _ (by omega)]
            refine ⟨p1, p2, p3, fun b hb => ?_, fun e' he' y => ?_⟩
            · rw [gb _ _ (by omega) (by omega), vn 109 _ (by omega)]
              exact p4 b hb
            · rw [v7] at he'
              rw [gn 35 _ (by omega)] at y
              exact p5 e' he' y
          · by_cases xc : x = c
            · exact ⟨by omega, Or.inl ⟨i, i64, by rw [u2]; decide, by rw [ψi, xc]⟩⟩
            · rw [g7 _ (by omega)] at y
              obtain ⟨x16, q⟩ := b5 k3 x hx y
              refine ⟨x16, ?_⟩
              rcases q with ⟨j', j1, j2, j3⟩ | ⟨e, e1, e2⟩
              · have := (hd j' j1 j2).1
                exact Or.inl ⟨j', j1, by rw [vi 152 j' (by decide) (by decide) this]; exact j2, by rw [ψn j' this]; exact j3⟩
              · exact Or.inr ⟨e, by rw [v7]; exact e1, by rw [gn _ _ (by omega)]; exact e2⟩
        · refine ⟨nb1, wcT_q b2 (fun k s z => ?_) (fun k s z => vn _ _ (by omega)) (fun z => by rw [gn _ _ (by omega)]; exact z), wcP_q b3 (fun k s z => gn _ _ (by omega)) (fun k s z => vn _ _ (by omega)), wcR_q b4 (fun k s z => ?_) (fun z e b he hb => ?_) (fun k s z => vn _ _ (by omega)) (by rw [hl, if_neg ej, Nat.add_zero]), fun z x hx y => ?_, wcN_q b6 (fun k s z => ?_) (fun k s z => vn _ _ (by omega))⟩
          · rw [g, if_neg (by omega), if_neg (by omega), if_neg (by omega), if_neg (by omega)]
          · rw [g, if_neg (by omega), if_neg (by omega), if_neg (by omega), if_neg (by omega)]
          · have := ((b4 z).2.2 e he).1
            exact gb _ _ (by omega) (by omega)
          · rw [vn _ _ (by omega)] at z
            rw [g7 _ (by omega)] at y
            obtain ⟨x16, q⟩ := b5 z x hx y
            refine ⟨x16, ?_⟩
            rcases q with ⟨j', j1, j2, j3⟩ | ⟨e, e1, e2⟩
            · have := (hd j' j1 j2).1
              exact Or.inl ⟨j', j1, by rw [vi 152 j' (by decide) (by decide) this]; exact j2, by rw [ψn j' this]; exact j3⟩
            · exact Or.inr ⟨e, by rw [vn _ _ (by omega)]; exact e1, by rw [gn _ _ (by omega)]; exact e2⟩
          · rw [g, if_neg (by omega), if_neg (by omega), if_neg (by omega), if_neg (by omega)]
      · intro z
        by_cases ej : j = i
        · rw [ej, ψi, u1, u0]
          refine ⟨by omega, by omega, ?_, ?_, fun b hb => ?_, by omega, ?_, ?_⟩
          · rw [show 32 * ((16 * m + c) / 16) + (16 * m + c) % 16 = 32 * m + c by omega]
            exact g7c
          · rw [g, if_neg (by omega), if_pos ⟨rfl, rfl⟩]
          · rw [v, if_pos ⟨rfl, by omega, by omega⟩, g, if_pos ⟨rfl, by omega, by omega⟩]
          · rw [show (16 * m + c) / 16 = m by omega, vn _ _ (by omega)]
            exact k3
          · rw [show (16 * m + c) / 16 = m by omega, vn _ _ (by omega)]
            exact k95
        · rw [vi 152 j (by decide) (by decide) ej] at z
          obtain ⟨p1, p2, p3, p4, p5, p6, p7, p8⟩ := hH j hj z
          have nc := (hd j hj z).2
          rw [ψn j ej, vi 151 j (by decide) (by decide) ej, vi 150 j (by decide) (by decide) ej]
          refine ⟨p1, p2, ?_, ?_, fun b hb => ?_, p6, ?_, ?_⟩
          · rw [g7 _ (by omega)]
            exact p3
          · rw [g6 _ nc]
            exact p4
          · rw [v, if_neg (by omega), if_neg (by omega), if_neg (by omega), if_neg (by omega), gb _ _ nc hb]
            exact p5 b hb
          · rw [vn _ _ (by omega)]
            exact p7
          · rw [vn _ _ (by omega)]
            exact p8
      · by_cases ej : j = i
        · by_cases ej' : j' = i
          · rw [ej, ej']
          · rw [vi 152 j' (by decide) (by decide) ej'] at z2
            rw [ej, ψi, ψn j' ej'] at e
            exact absurd e.symm (hd j' hj' z2).2
        · rw [vi 152 j (by decide) (by decide) ej] at z1
          by_cases ej' : j' = i
          · rw [ej', ψi, ψn j ej] at e
            exact absurd e (hd j hj z1).2
          · rw [vi 152 j' (by decide) (by decide) ej'] at z2
            rw [ψn j ej, ψn j' ej'] at e
            exact hJ j j' hj hj' z1 z2 e
      · have := (hd j hj z).1
        exact ⟨ψn j this, by rw [vi 152 j (by decide) (by decide) this]; exact z⟩
end CREC
