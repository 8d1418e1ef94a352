/-! ===== the class's runs: what of the rest of a machine stays, part by part ===== -/
section CFRA
variable {σ τ ρ : MS} {W V : WR} {m n o : Nat} {φ ψ : Nat → Nat}
theorem wcK_q (h : wcK σ W m) (hS : ∀ k, 29 ≤ k ∧ k ≤ 33 → gI τ k m = gI σ k m) (hW : ∀ k, 95 ≤ k ∧ k ≤ 99 → wg V k m = wg W k m) : wcK τ V m := by
  unfold wcK
  rw [hW _ (by omega), hW _ (by omega), hW _ (by omega), hW _ (by omega), hW _ (by omega), hS _ (by omega), hS _ (by omega), hS _ (by omega), hS _ (by omega), hS _ (by omega)]
  exact h
theorem wcT_q (h : wcT σ W m) (hS : ∀ k s, (k = 34 ∧ s = m) ∨ (k = 35 ∧ s / 16 = m) ∨ (k = 37 ∧ s / 32 = m) ∨ (k = 28 ∧ s / 512 = m) → gI τ k s = gI σ k s)
    (hW : ∀ k s, ((k = 96 ∨ k = 97) ∧ s = m) ∨ (k = 101 ∧ s = m) ∨ (k = 103 ∧ s / 16 = m) ∨ (k = 102 ∧ s / 256 = m) ∨ ((k = 104 ∨ k = 105) ∧ s / 32 = m) → wg V k s = wg W k s) (h26 : ¬ gI σ 26 12 = 0 → ¬ gI τ 26 12 = 0) : wcT τ V m := by
  intro z
  rw [hW _ _ (by omega)] at z
  obtain ⟨⟨q1, q0⟩, q2, q3⟩ := h z
  refine ⟨⟨?_, ?_⟩, fun e he => ?_, fun i hi => ?_⟩
  · rw [hW _ _ (by omega), hS _ _ (by omega)]
    exact q1
  · rw [hW _ _ (by omega)]
    exact q0
  · rw [hW _ _ (by omega)] at he
    obtain ⟨⟨q4, q5, q6⟩, q7, q8, q9⟩ := q2 e he
    have e3 : wg V 103 (16 * m + e) = wg W 103 (16 * m + e) := hW _ _ (by omega)
    rw [e3, hS 35 _ (by omega), hS 37 _ (by omega)]
    refine ⟨⟨q4, q5, q6⟩, q7, fun e' he' z => ?_, fun k hk hz => ?_⟩
    · rw [hW _ _ (by omega)] at he'
      rw [hW _ _ (by omega)] at z
      exact q8 e' he' z
    · rw [hW 97 _ (by omega)] at hz
      rw [hW _ _ (by omega), hS 28 _ (by omega)]
      exact q9 k hk hz
  · rw [hW _ _ (by omega), hW _ _ (by omega), hS _ _ (by omega)]
    exact ⟨(q3 i hi).1, (q3 i hi).2.1, fun z => h26 ((q3 i hi).2.2.1 z), (q3 i hi).2.2.2⟩
theorem cnP_q (hW : ∀ s, s / 16 = m → wg V 106 s = wg W 106 s) : cnP V m = cnP W m := by
  unfold cnP
  refine congrArg List.length (List.filter_congr fun x hx => ?_)
  have := List.mem_range.mp hx
  rw [hW _ (by omega)]
theorem wcP_q (h : wcP σ W m) (hS : ∀ k s, (k = 34 ∧ s = m) ∨ (k = 35 ∧ s / 16 = m) → gI τ k s = gI σ k s) (hW : ∀ k s, ((k = 96 ∨ k = 99) ∧ s = m) ∨ (k = 106 ∧ s / 16 = m) → wg V k s = wg W k s) : wcP τ V m := by
  refine ⟨fun z => ⟨fun x hx => ?_, ?_⟩, fun z => ?_⟩
  · rw [hW _ _ (by omega)] at z
    rw [hW _ _ (by omega), hS _ _ (by omega)]
    exact (h.1 z).1 x hx
  · rw [hW _ _ (by omega)] at z
    rw [hS _ _ (by omega), cnP_q (fun s hs => hW _ _ (by omega))]
    exact (h.1 z).2
  · rw [hW _ _ (by omega)] at z
    rw [hW _ _ (by omega), hS _ _ (by omega)]
    exact h.2 z
theorem wcR_q (h : wcR σ W m) (hS : ∀ k s, ((k = 34 ∨ k = 38) ∧ s = m) ∨ ((k = 35 ∨ k = 36) ∧ s / 16 = m) ∨ (k = 37 ∧ s / 32 = m) → gI τ k s = gI σ k s)
    (h27 : wg W 96 m = 3 → ∀ e b : Nat, (e : Int) < wg W 107 m → (b : Int) < 64 → gI τ 27 (17172 + 64 * (16 * m + (gI σ 35 (16 * m + e)).toNat) + b) = gI σ 27 (17172 + 64 * (16 * m + (gI σ 35 (16 * m + e)).toNat) + b))
    (hW : ∀ k s, ((k = 96 ∨ k = 107) ∧ s = m) ∨ (k = 108 ∧ s / 16 = m) ∨ (k = 109 ∧ s / 1024 = m) → wg V k s = wg W k s) (hl : hldR V m = hldR W m) : wcR τ V m := by
  intro z
  rw [hW _ _ (by omega)] at z
  obtain ⟨⟨q1, q0⟩, q2, q3⟩ := h z
  refine ⟨⟨?_, ?_⟩, ?_, fun e he => ?_⟩
  · rw [hW _ _ (by omega), hS _ _ (by omega)]
    exact q1
  · rw [hW _ _ (by omega)]
    exact q0
  · rw [hl, hS _ _ (by omega)]
    exact q2
  · rw [hW _ _ (by omega)] at he
    obtain ⟨q4, q5, q6, q7, q8⟩ := q3 e he
    rw [hS 35 (16 * m + e) (by omega), hS 37 _ (by omega), hS 36 _ (by omega), hW 108 _ (by omega)]
    refine ⟨q4, q5, q6, fun b hb => ?_, fun e' he' y => ?_⟩
    · rw [h27 z e b he (by omega), hW 109 _ (by omega)]
      exact q7 b hb
    · rw [hW _ _ (by omega)] at he'
      rw [hS 35 _ (by omega)] at y
      exact q8 e' he' y
theorem wcO_q (h : wcO σ φ W m) (b : wg W 96 m = 3 → wg W 107 m ≤ 16) (hS : ∀ k s, (k = 35 ∧ s / 16 = m) ∨ (k = 37 ∧ s / 32 = m) → gI τ k s = gI σ k s) (hW : ∀ k s, ((k = 96 ∨ k = 107) ∧ s = m) ∨ k = 152 → wg V k s = wg W k s) : wcO τ φ V m := by
  intro z i hi y
  rw [hW _ _ (by omega)] at z
  rw [hS _ _ (by omega)] at y
  have b := b z
  obtain ⟨q1, q2⟩ := h z i hi y
  refine ⟨q1, ?_⟩
  rcases q2 with ⟨j, j1, j2, j3⟩ | ⟨e, e1, e2⟩
  · exact Or.inl ⟨j, j1, by rw [hW _ _ (by omega)]; exact j2, j3⟩
  · exact Or.inr ⟨e, by rw [hW _ _ (by omega)]; exact e1, by rw [hS _ _ (by omega)]; exact e2⟩
theorem wcN_q (h : wcN σ W m) (hS : ∀ k s, (k = 38 ∧ s = m) ∨ (k = 37 ∧ s / 32 = m) → gI τ k s = gI σ k s) (hW : ∀ k s, ((k = 95 ∨ k = 96 ∨ k = 101 ∨ k = 107) ∧ s = m) ∨ ((k = 104 ∨ k = 105) ∧ s / 32 = m) ∨ (k = 106 ∧ s / 16 = m) → wg V k s = wg W k s) : wcN τ V m := by
  intro z
  rw [hW _ _ (by omega)] at z
  obtain ⟨⟨q1, q2, q3, q4⟩, q5, q6⟩ := h z
  refine ⟨⟨?_, ?_, ?_, ?_⟩, fun i hi => ⟨?_, ?_, ?_⟩, fun x hx => ?_⟩
  · rw [hW _ _ (by omega)]
    exact q1
  · rw [hW _ _ (by omega)]
    exact q2
  · rw [hW _ _ (by omega)]
    exact q3
  · rw [hS _ _ (by omega)]
    exact q4
  · rw [hW _ _ (by omega)]
    exact (q5 i hi).1
  · rw [hW _ _ (by omega)]
    exact (q5 i hi).2.1
  · rw [hS _ _ (by omega)]
    exact (q5 i hi).2.2
  · rw [hW _ _ (by omega)]
    exact q6 x hx
theorem wcH_q {i : Nat} (h : wcH σ φ W i) (hS : φ i < 128 → wg W 96 (φ i / 16) = 3 → gI τ 37 (32 * (φ i / 16) + φ i % 16) = gI σ 37 (32 * (φ i / 16) + φ i % 16) ∧ gI τ 36 (φ i) = gI σ 36 (φ i))
    (h27 : φ i < 128 → ∀ b, b < 64 → wg W 149 (64 * i + b) = gI σ 27 (17172 + 64 * φ i + b) → wg V 149 (64 * i + b) = gI τ 27 (17172 + 64 * φ i + b)) (hW : ∀ k, 150 ≤ k ∧ k ≤ 152 → wg V k i = wg W k i) (hK : ∀ m, m < 8 → wg V 95 m = wg W 95 m ∧ wg V 96 m = wg W 96 m) : wcH τ φ V i := by
  intro z
  rw [hW _ (by omega)] at z
  obtain ⟨q1, q2, q3, q4, q5, q6⟩ := h z
  obtain ⟨s1, s2⟩ := hS q1 q6.2.1
  have m8 : φ i / 16 < 8 := by omega
  refine ⟨q1, ?_, s1.trans q3, ?_, fun b hb => h27 q1 b hb (q5 b hb), ?_⟩
  · rw [hW _ (by omega)]
    exact q2
  · rw [hW _ (by omega), s2]
    exact q4
  · rw [hW _ (by omega), (hK _ m8).1, (hK _ m8).2]
    exact q6
theorem wcI_q (h : wcI φ W) (hW : ∀ i, wg V 152 i = wg W 152 i) : wcI φ V := fun i j hi hj z1 z2 e => by
  rw [hW] at z1 z2
  exact h i j hi hj z1 z2 e
/-- the maps, where nothing of them changed but bytes -/
theorem wldM_q (h : wldM σ φ W) (hS : ∀ k s, 28 ≤ k ∧ k ≤ 38 ∨ k = 26 ∧ s = 12 → gI τ k s = gI σ k s) (hW : ∀ k s, (95 ≤ k ∧ k ≤ 109 ∧ ¬ k = 100) ∨ (150 ≤ k ∧ k ≤ 152) → wg V k s = wg W k s)
    (h27 : ∀ m e b : Nat, m < 8 → wg W 96 m = 3 → (e : Int) < wg W 107 m → b < 64 → gI τ 27 (17172 + 64 * (16 * m + (gI σ 35 (16 * m + e)).toNat) + b) = gI σ 27 (17172 + 64 * (16 * m + (gI σ 35 (16 * m + e)).toNat) + b))
    (h49 : ∀ i, i < 64 → ¬ wg W 152 i = 0 → φ i < 128 → ∀ b, b < 64 → wg W 149 (64 * i + b) = gI σ 27 (17172 + 64 * φ i + b) → wg V 149 (64 * i + b) = gI τ 27 (17172 + 64 * φ i + b)) : wldM τ φ V := by
  obtain ⟨h1, h2, h3⟩ := h
  have hl : ∀ m, hldR V m = hldR W m := fun m => hld_e (fun s => hW _ _ (by omega)) (fun s => hW _ _ (by omega))
  refine ⟨fun m hm => ?_, fun i hi z => ?_, wcI_q h3 (fun i => hW _ _ (by omega))⟩
  · obtain ⟨a1, a2, a3, a4, a5, a6⟩ := h1 m hm
    exact ⟨wcK_q a1 (fun k z => hS _ _ (by omega)) (fun k z => by
        by_cases q : k = 100
        · omega
        · exact hW _ _ (by omega)),
      wcT_q a2 (fun k s z => hS _ _ (by omega)) (fun k s z => hW _ _ (by omega)) (fun z => by rw [hS 26 12 (by omega)]; exact z), wcP_q a3 (fun k s z => hS _ _ (by omega)) (fun k s z => hW _ _ (by omega)),
      wcR_q a4 (fun k s z => hS _ _ (by omega)) (fun z e b he hb => h27 m e b hm z he (by omega)) (fun k s z => hW _ _ (by omega)) (hl m),
      wcO_q a5 (fun z => (a4 z).1.2) (fun k s z => hS _ _ (by omega)) (fun k s z => hW _ _ (by omega)), wcN_q a6 (fun k s z => hS _ _ (by omega)) (fun k s z => hW _ _ (by omega))⟩
  · have z' : ¬ wg W 152 i = 0 := by
      rw [hW _ _ (by omega)] at z
      exact z
    exact wcH_q (h2 i hi) (fun _ _ => ⟨hS _ _ (by omega), hS _ _ (by omega)⟩) (fun q1 b hb => h49 i hi z' q1 b hb) (fun k q => hW _ _ (by omega)) (fun m hm => ⟨hW _ _ (by omega), hW _ _ (by omega)⟩) z
/-- nothing of the maps changed -/
theorem wldM_r (h : wldM σ φ W) (hS : ∀ k s, 28 ≤ k ∧ k ≤ 38 ∨ k = 26 ∧ s = 12 → gI τ k s = gI σ k s) (hS7 : ∀ s, 17172 ≤ s → gI τ 27 s = gI σ 27 s) (hW : ∀ k s, (95 ≤ k ∧ k ≤ 109 ∧ ¬ k = 100) ∨ (149 ≤ k ∧ k ≤ 152) → wg V k s = wg W k s) : wldM τ φ V :=
  wldM_q h hS (fun k s z => hW k s (by omega)) (fun m e b hm z he hb => hS7 _ (by omega)) (fun i hi z q b hb y => by rw [hW _ _ (by omega), hS7 _ (by omega)]; exact y)
theorem wcV_q (h : wcV σ W) (hS : ∀ s, 788 ≤ s ∧ s < 17172 → gI τ 27 s = gI σ 27 s) (hW : ∀ s, wg V 100 s = wg W 100 s) : wcV τ V := fun s hs => by
  rw [hW, hS _ (by omega)]
  exact h s hs
theorem wcQ_q (h : wcQ σ W) (pk : wg W 80 105 ≤ 256) (hS : ∀ s, s < 256 → gI τ 27 s = gI σ 27 s) (hW : ∀ s, wg V 144 s = wg W 144 s) (h5 : wg V 80 105 = wg W 80 105) : wcQ τ V := fun s hs => by
  rw [h5] at hs
  rw [hW, hS _ (by omega)]
  exact h s hs
theorem wcZ_q (h : wcZ σ W) (hS : ∀ s, s = 7 ∨ s = 10 ∨ s = 12 ∨ s = 15 ∨ s = 18 → gI τ 71 s = gI σ 71 s) (hW : ∀ s, s = 105 ∨ s = 107 ∨ s = 110 ∨ s = 113 ∨ s = 122 → wg V 80 s = wg W 80 s) : wcZ τ V := by
  unfold wcZ
  rw [hW _ (by omega), hW _ (by omega), hW _ (by omega), hW _ (by omega), hW _ (by omega), hS _ (by omega), hS _ (by omega), hS _ (by omega), hS _ (by omega), hS _ (by omega)]
  exact h
theorem wcG_q (h : wcG σ W) (hS : ∀ s, gI τ 16 s = gI σ 16 s) (hW : ∀ s, wg V 85 s = wg W 85 s) : wcG τ V := fun s hs => by
  rw [hW, hS]
  exact h s hs
theorem wcX_q (h : wcX σ W) (hS : ∀ s, gI τ 79 s = gI σ 79 s) (hW : ∀ s, wg V 145 s = wg W 145 s) (h5 : wg V 80 113 = wg W 80 113) : wcX τ V := fun s hs => by
  rw [h5] at hs
  rw [hW, hS]
  exact h s hs
theorem wcC_q (h : wcC σ W) (hS : ∀ s, 768 ≤ s ∧ s < 780 → gI τ 27 s = gI σ 27 s) (h5 : wg V 80 105 = wg W 80 105) : wcC τ V := by
  refine ⟨fun b hb => ?_, fun b hb => ?_, fun b hb => ?_⟩
  · rw [hS _ (by omega)]
    exact h.1 b hb
  · rw [h5, hS _ (by omega)]
    exact h.2.1 b hb
  · rw [h5, hS _ (by omega)]
    exact h.2.2 b hb
theorem wcY_q (h : wcY σ W) (hS : ∀ s, 780 ≤ s ∧ s < 788 → gI τ 27 s = gI σ 27 s) (hW : ∀ s, s = 106 ∨ s = 107 → wg V 80 s = wg W 80 s) : wcY τ V := by
  refine ⟨fun b hb => ?_, fun b hb => ?_, ?_⟩
  · rw [hW _ (by omega), hS _ (by omega)]
    exact h.1 b hb
  · rw [hW _ (by omega), hS _ (by omega)]
    exact h.2.1 b hb
  · rw [hW _ (by omega)]
    exact h.2.2
theorem wcL_q (h : wcL σ W) (h1 : gL τ 71 13 = gL σ 71 13) (h2 : gL τ 71 16 = gL σ 71 16) (hV : V.2 = W.2) : wcL τ V := by
  unfold wcL
  rw [hV, h1, h2]
  exact h
/-- the rest, where nothing of it changed -/
theorem wldA_q (h : wldA σ W) (pk : wg W 80 105 ≤ 256) (h1 : ∀ k s, (k = 16 ∨ k = 79 ∨ (k = 27 ∧ ¬ (256 ≤ s ∧ s < 768) ∧ s < 17172) ∨ (k = 71 ∧ (s = 7 ∨ s = 10 ∨ s = 12 ∨ s = 15 ∨ s = 18))) → gI τ k s = gI σ k s) (h2 : gL τ 71 13 = gL σ 71 13) (h3 : gL τ 71 16 = gL σ 71 16) : wldA τ W := by
  obtain ⟨k4, k5, k6, k7, k8, k9, k10, k11⟩ := h
  exact ⟨wcV_q k4 (fun s z => h1 _ _ (by omega)) (fun _ => rfl), wcQ_q k5 pk (fun s z => h1 _ _ (by omega)) (fun _ => rfl) rfl, wcZ_q k6 (fun s z => h1 _ _ (by omega)) (fun _ _ => rfl), wcG_q k7 (fun s => h1 _ _ (by omega)) (fun _ => rfl), wcX_q k8 (fun s => h1 _ _ (by omega)) (fun _ => rfl) rfl, wcC_q k9 (fun s z => h1 _ _ (by omega)) rfl, wcY_q k10 (fun s z => h1 _ _ (by omega)) (fun _ _ => rfl), wcL_q k11 h2 h3 rfl⟩
theorem wldC_q (h : wldC σ φ W) (pk : wg W 80 105 ≤ 256) (h1 : ∀ k s, (k = 16 ∨ (28 ≤ k ∧ k ≤ 38) ∨ (k = 26 ∧ s = 12) ∨ k = 79 ∨ (k = 27 ∧ ¬ (256 ≤ s ∧ s < 768)) ∨ (k = 71 ∧ (s = 7 ∨ s = 10 ∨ s = 12 ∨ s = 15 ∨ s = 18))) → gI τ k s = gI σ k s) (h2 : gL τ 71 13 = gL σ 71 13) (h3 : gL τ 71 16 = gL σ 71 16) : wldC τ φ W :=
  ⟨wldM_r h.1 (fun k s z => h1 _ _ (by omega)) (fun s z => h1 _ _ (by omega)) (fun _ _ _ => rfl), wldA_q h.2 pk (fun k s z => h1 _ _ (by omega)) h2 h3⟩
/-- of the maps one TABLE changed -/
theorem wldM_t (h : wldM σ φ W) (k1 : wg W 96 m = 1) (hS : ∀ k s, 28 ≤ k ∧ k ≤ 38 → ¬ ((k = 28 ∧ s / 512 = m) ∨ (k = 34 ∧ s = m) ∨ (k = 35 ∧ s / 16 = m) ∨ (k = 37 ∧ s / 32 = m)) → gI τ k s = gI σ k s) (hS7 : ∀ s, 17172 ≤ s → gI τ 27 s = gI σ 27 s)
    (hW : ∀ k s, (95 ≤ k ∧ k ≤ 109 ∧ ¬ k = 100) ∨ (149 ≤ k ∧ k ≤ 152) → ¬ ((k = 101 ∧ s = m) ∨ (k = 103 ∧ s / 16 = m) ∨ (k = 102 ∧ s / 256 = m) ∨ ((k = 104 ∨ k = 105) ∧ s / 32 = m)) → wg V k s = wg W k s) (h26 : ¬ gI σ 26 12 = 0 → ¬ gI τ 26 12 = 0) (hT : wcT τ V m) : wldM τ φ V := by
  obtain ⟨h1, h2, h3⟩ := h
  have hl : ∀ j, hldR V j = hldR W j := fun j => hld_e (fun s => hW _ _ (by omega) (by omega)) (fun s => hW _ _ (by omega) (by omega))
  refine ⟨fun j hj => ?_, fun i hi => ?_, wcI_q h3 (fun i => hW _ _ (by omega) (by omega))⟩
  · obtain ⟨a1, a2, a3, a4, a5, a6⟩ := h1 j hj
    by_cases q : j = m
    · subst q
      have v6 : wg V 96 j = 1 := (hW _ _ (by omega) (by omega)).trans k1
      have v5 : wg V 95 j = wg W 95 j := hW _ _ (by omega) (by omega)
      refine ⟨wcK_q a1 (fun k z => hS _ _ (by omega) (by omega)) (fun k z => by
        by_cases q : k = 100
        · omega
        · exact hW _ _ (by omega) (by omega)), hT, ⟨fun z => by omega, fun z => by omega⟩, fun z => by omega, fun z => by omega, fun z => ?_⟩
      rw [v5] at z
      have := (a6 z).1.1
      omega
    · exact ⟨wcK_q a1 (fun k z => hS _ _ (by omega) (by omega)) (fun k z => by
        by_cases q : k = 100
        · omega
        · exact hW _ _ (by omega) (by omega)),
        wcT_q a2 (fun k s z => hS _ _ (by omega) (by omega)) (fun k s z => hW _ _ (by omega) (by omega)) h26, wcP_q a3 (fun k s z => hS _ _ (by omega) (by omega)) (fun k s z => hW _ _ (by omega) (by omega)),
        wcR_q a4 (fun k s z => hS _ _ (by omega) (by omega)) (fun z e b he hb => hS7 _ (by omega)) (fun k s z => hW _ _ (by omega) (by omega)) (hl j),
        wcO_q a5 (fun z => (a4 z).1.2) (fun k s z => hS _ _ (by omega) (by omega)) (fun k s z => hW _ _ (by omega) (by omega)), wcN_q a6 (fun k s z => hS _ _ (by omega) (by omega)) (fun k s z => hW _ _ (by omega) (by omega))⟩
  · refine wcH_q (h2 i hi) (fun q1 q2 => ?_) (fun q1 b hb y => ?_) (fun k q => hW _ _ (by omega) (by omega)) (fun j hj => ⟨hW _ _ (by omega) (by omega), hW _ _ (by omega) (by omega)⟩)
    · have : ¬ φ i / 16 = m := fun z => by rw [z, k1] at q2; exact absurd q2 (by decide)
      exact ⟨hS _ _ (by omega) (by omega), hS _ _ (by omega) (by omega)⟩
    · rw [hW _ _ (by omega) (by omega), hS7 _ (by omega)]
      exact y
end CFRA
