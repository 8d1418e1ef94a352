/-! ===== the class's runs: a record's end; what stays of a machine ===== -/
section CGIV
variable {σ τ ρ : MS} {W V : WR} {c : TC WR} {m n p q p0 e j i z N C : Nat} {L : List B64} {y k p' : Int} {E : EV} {φ ψ : Nat → Nat} {x : B64} {fl : Bool} {R' : Nat → Nat → SV} {S' : Nat → Nat → MB}
theorem ix32 {c : Nat} (hm : m < 8) (hc : c < 32) : w32 (w32 ((m : Int) * 32) + (c : Int)) = ((32 * m + c : Nat) : Int) := by
  rw [w32_i (x := (m : Int) * 32) (by omega) (by omega), w32_i (by omega) (by omega)]
  omega
theorem ix16 {c : Nat} (hm : m < 8) (hc : c < 16) : w32 (w32 ((m : Int) * 16) + (c : Int)) = ((16 * m + c : Nat) : Int) := by
  rw [w32_i (x := (m : Int) * 16) (by omega) (by omega), w32_i (by omega) (by omega)]
  omega
theorem T59 (hm : m < 8) (hC : C < 16) (h7 : gI σ 37 (32 * m + C) = 1) (hN : gI σ 34 m = (N : Int)) (hN16 : N < 16) (b8 : 1 ≤ gI σ 38 m ∧ gI σ 38 m ≤ 64) :
    ∃ τ, MM 59 [mR (some 26), mI ((17172 + 64 * (16 * m + C) : Nat) : Int), mI (bI fl)] σ = some (none, τ) ∧ τ.2 = σ.2 ∧ ∀ k s, gI τ k s = if fl = true ∧ k = 34 ∧ s = m then (N : Int) + 1 else if fl = true ∧ k = 35 ∧ s = 16 * m + N then (C : Int) else if k = 37 ∧ s = 32 * m + C then (if fl = true then 2 else 0) else if k = 38 ∧ s = m then gI σ 38 m - 1 else gI σ k s := by
  have b0 : 0 ≤ (m : Int) ∧ (m : Int) < 8 := by omega
  have nl : ¬ ((17172 + 64 * (16 * m + C) : Nat) : Int) < 17172 := by omega
  have l8 : ((16 * m + C : Nat) : Int) < 128 := by omega
  have b7 : 0 ≤ ((32 * m + C : Nat) : Int) ∧ ((32 * m + C : Nat) : Int) < 256 := by omega
  have b5 : 0 ≤ ((16 * m + N : Nat) : Int) ∧ ((16 * m + N : Nat) : Int) < 128 := by omega
  have l16 : (N : Int) < 16 := by omega
  have i3 : -2147483648 ≤ gI σ 38 m - 1 ∧ gI σ 38 m - 1 < 2147483648 := by omega
  have i4 : -2147483648 ≤ (N : Int) + 1 ∧ (N : Int) + 1 < 2147483648 := by omega
  have d1 : ((17172 + 64 * (16 * m + C) : Nat) : Int) - 17172 = ((64 * (16 * m + C) : Nat) : Int) := by omega
  have d2 : 64 * (16 * m + C) / 64 = 16 * m + C := by omega
  have d3 : (16 * m + C) / 16 = m := by omega
  have d4 : (16 * m + C) % 16 = C := by omega
  have j1 : -2147483648 ≤ ((64 * (16 * m + C) : Nat) : Int) ∧ ((64 * (16 * m + C) : Nat) : Int) < 2147483648 := by omega
  have j2 : -2147483648 ≤ ((16 * m + C : Nat) : Int) ∧ ((16 * m + C : Nat) : Int) < 2147483648 := by omega
  have j3 : -2147483648 ≤ (m : Int) ∧ (m : Int) < 2147483648 := by omega
  have w1 : w32 (((17172 + 64 * (16 * m + C) : Nat) : Int) - 17172) = ((64 * (16 * m + C) : Nat) : Int) := by rw [d1, w32_i j1.1 j1.2]
  have w2 : w32 (Int.tdiv ((64 * (16 * m + C) : Nat) : Int) 64) = ((16 * m + C : Nat) : Int) := by
    rw [show Int.tdiv ((64 * (16 * m + C) : Nat) : Int) 64 = ((64 * (16 * m + C) / 64 : Nat) : Int) from rfl, d2, w32_i j2.1 j2.2]
  have w3 : w32 (Int.tdiv ((16 * m + C : Nat) : Int) 16) = (m : Int) := by
    rw [show Int.tdiv ((16 * m + C : Nat) : Int) 16 = (((16 * m + C) / 16 : Nat) : Int) from rfl, d3, w32_i j3.1 j3.2]
  have w4 : Int.tmod ((16 * m + C : Nat) : Int) 16 = (C : Int) := by
    rw [show Int.tmod ((16 * m + C : Nat) : Int) 16 = (((16 * m + C) % 16 : Nat) : Int) from rfl, d4]
  have w5 : w32 (w32 ((m : Int) * 32) + (C : Int)) = ((32 * m + C : Nat) : Int) := ix32 hm (Nat.lt_trans hC (by decide))
  have w6 : w32 (gI σ 38 m - 1) = gI σ 38 m - 1 := w32_i i3.1 i3.2
  obtain ⟨υ, hυ⟩ : ∃ υ, υ = sI σ 38 m (gI σ 38 m - 1) := ⟨_, rfl⟩
  cases fl with
  | false =>
    refine ⟨sI υ 37 (32 * m + C) 0, ?_, by rw [hυ]; rfl, fun k s => ?_⟩
    · have z0 : bI false = 0 := rfl
      have z8 : w8 0 = 0 := by decide
      rw [z0, M59, e59_0]
      simp only [Option.getD_some, Option.bind_some, Option.toList_some, Option.toList_none, List.cons_append, List.nil_append, and_self, and_true, true_and, false_and, and_false, ite_self, not_true_eq_false, not_false_eq_true, reduceIte, Nat.reduceEqDiff, ab_I, ab_L, ab_R, ao_I, ao_L, ao_R, gL_sL, gI_sI, gR_sR, gI_sL, gI_sR, gL_sI, gL_sR, gR_sI, gR_sL, nl, if_false, w1, w2, l8, if_true, w3, w4, w5, g_37, b7.1, b7.2, Int.toNat_natCast, h7, g_34, b0.1, b0.2, hN, l16, g_38, w6, ← hυ]
      rw [e59_92]
      simp only [Option.getD_some, Option.bind_some, Option.toList_some, Option.toList_none, List.cons_append, List.nil_append, and_self, and_true, true_and, false_and, and_false, ite_self, not_true_eq_false, not_false_eq_true, reduceIte, Nat.reduceEqDiff, ab_I, ab_L, ab_R, ao_I, ao_L, ao_R, gL_sL, gI_sI, gR_sR, gI_sL, gI_sR, gL_sI, gL_sR, gR_sI, gR_sL, g_37, b7.1, b7.2, Int.toNat_natCast, z8]
    · rw [if_neg (fun z => absurd z.1 (by decide)), if_neg (fun z => absurd z.1 (by decide)), gI_sI, hυ, gI_sI]
      rfl
  | true =>
    obtain ⟨υ2, hυ2⟩ : ∃ υ2, υ2 = sI υ 37 (32 * m + C) 2 := ⟨_, rfl⟩
    have u34 : gI υ2 34 m = (N : Int) := by rw [hυ2, gI_sI, if_neg (fun z => absurd z.1 (by decide)), hυ, gI_sI, if_neg (fun z => absurd z.1 (by decide))]; exact hN
    have u34' : gI (sI υ2 35 (16 * m + N) (C : Int)) 34 m = (N : Int) := by rw [gI_sI, if_neg (fun z => absurd z.1 (by decide))]; exact u34
    refine ⟨sI (sI υ2 35 (16 * m + N) (C : Int)) 34 m ((N : Int) + 1), ?_, by rw [hυ2, hυ]; rfl, fun k s => ?_⟩
    · have z0 : bI true = 1 := rfl
      have z8 : w8 2 = 2 := by decide
      have w7 : w32 (w32 ((m : Int) * 16) + (N : Int)) = ((16 * m + N : Nat) : Int) := ix16 hm hN16
      have w9 : w32 ((N : Int) + 1) = (N : Int) + 1 := w32_i i4.1 i4.2
      have n1 : ¬ (1 : Int) = 0 := by decide
      rw [z0, M59, e59_0]
      simp only [Option.getD_some, Option.bind_some, Option.toList_some, Option.toList_none, List.cons_append, List.nil_append, and_self, and_true, true_and, false_and, and_false, ite_self, not_true_eq_false, not_false_eq_true, reduceIte, Nat.reduceEqDiff, ab_I, ab_L, ab_R, ao_I, ao_L, ao_R, gL_sL, gI_sI, gR_sR, gI_sL, gI_sR, gL_sI, gL_sR, gR_sI, gR_sL, nl, if_false, w1, w2, l8, if_true, w3, w4, w5, g_37, b7.1, b7.2, Int.toNat_natCast, h7, g_34, b0.1, b0.2, hN, l16, g_38, w6, n1, ← hυ]
      rw [e59_92]
      simp only [Option.getD_some, Option.bind_some, Option.toList_some, Option.toList_none, List.cons_append, List.nil_append, and_self, and_true, true_and, false_and, and_false, ite_self, not_true_eq_false, not_false_eq_true, reduceIte, Nat.reduceEqDiff, ab_I, ab_L, ab_R, ao_I, ao_L, ao_R, gL_sL, gI_sI, gR_sR, gI_sL, gI_sR, gL_sI, gL_sR, gR_sI, gR_sL, g_37, b7.1, b7.2, Int.toNat_natCast, z8, n1, if_false, ← hυ2, g_34, g_35, b0.1, b0.2, u34, w7, b5.1, b5.2, w4, u34', w9]
    · rw [gI_sI, gI_sI, hυ2, gI_sI, hυ, gI_sI]
      by_cases y1 : k = 34 ∧ s = m
      · rw [if_pos y1, if_pos ⟨rfl, y1⟩]
      · rw [if_neg y1, if_neg (show ¬ (true = true ∧ k = 34 ∧ s = m) from fun z => y1 z.2)]
        by_cases y2 : k = 35 ∧ s = 16 * m + N
        · rw [if_pos y2, if_pos ⟨rfl, y2⟩]
        · rw [if_neg y2, if_neg (show ¬ (true = true ∧ k = 35 ∧ s = 16 * m + N) from fun z => y2 z.2)]
          rfl
/-- a record's end -/
theorem giv_C (h : wldC σ φ W) (hI : invW W) (hi : i < 64) (hh : ¬ wg W 152 i = 0) :
    ∃ τ, MM 59 [mR (some 26), mI ((17172 + 64 * φ i : Nat) : Int), mI (bI fl)] σ = some (none, τ) ∧ wldC τ φ (givR W i fl) ∧ τ.2 = σ.2 ∧ ∀ k s, ¬ (34 ≤ k ∧ k ≤ 38) → gI τ k s = gI σ k s := by
  have pk := hI.2.2.2.1.1.2
  obtain ⟨⟨hM, hH, hJ⟩, hA⟩ := h
  obtain ⟨p1, p2, p3, p4, p5, p6, p7, p8⟩ := hH i hi hh
  obtain ⟨m, hm_⟩ : ∃ m, m = φ i / 16 := ⟨_, rfl⟩
  obtain ⟨C, hC_⟩ : ∃ C, C = φ i % 16 := ⟨_, rfl⟩
  have eφ : φ i = 16 * m + C := by omega
  have hC : C < 16 := by omega
  have hm : m < 8 := by omega
  have em : wg W 151 i = (m : Int) := by omega
  rw [← hm_, ← hC_] at p3
  rw [← hm_] at p7 p8
  obtain ⟨a1, a2, a3, a4, a5, a6⟩ := hM m hm
  obtain ⟨⟨r1, r0⟩, r2, r3⟩ := a4 p7
  have i6 := hI.2.2.2.2.2.1 m hm
  have i9 := (hI.1 m hm).1.2.2.1
  have i5 := hI.2.2.2.2.1 i hi hh
  have hl1 : 1 ≤ hldR W m := by
    unfold hldR
    exact List.length_pos_of_mem (a := i) (List.mem_filter.mpr ⟨List.mem_range.mpr hi, decide_eq_true ⟨hh, em⟩⟩)
  obtain ⟨N, hN⟩ : ∃ N : Nat, N = (wg W 107 m).toNat := ⟨_, rfl⟩
  have eN : gI σ 34 m = (N : Int) := by omega
  have e7 : wg W 107 m = (N : Int) := by omega
  obtain ⟨Z, hZ⟩ : ∃ Z : Nat, Z = (wg W 150 i).toNat := ⟨_, rfl⟩
  have e0 : wg W 150 i = (Z : Int) := by omega
  have z64 : hldR W m ≤ 64 := by
    unfold hldR
    have := List.length_filter_le (fun i => decide (¬ wg W 152 i = 0 ∧ wg W 151 i = m)) (List.range 64)
    rwa [List.length_range] at this
  obtain ⟨τ, t, g2, g⟩ := T59 (σ := σ) (fl := fl) hm hC p3 eN (by omega) (by omega)
  rw [← eφ] at t
  have lg := gL_2 g2
  obtain ⟨V, hV⟩ : ∃ V, V = givR W i fl := ⟨_, rfl⟩
  have v : ∀ k s, wg V k s = if fl = true ∧ k = 107 ∧ s = m then (N : Int) + 1 else if fl = true ∧ k = 109 ∧ 1024 * m + 64 * N ≤ s ∧ s < 1024 * m + 64 * N + Z then wg W 149 (64 * i + (s - (1024 * m + 64 * N))) else if fl = true ∧ k = 108 ∧ s = 16 * m + N then wg W 150 i else if k = 152 ∧ s = i then 0 else wg W k s := fun k s => by
    rw [hV]
    unfold givR
    dsimp only
    cases fl with
    | false =>
      rw [if_pos rfl, if_neg (fun z => absurd z.1 (by decide)), if_neg (fun z => absurd z.1 (by decide)), if_neg (fun z => absurd z.1 (by decide)), wg_wset]
    | true =>
      rw [if_neg (by decide), em, Int.toNat_natCast, ← hN, ← hZ, wg_wset, e7]
      by_cases y1 : k = 107 ∧ s = m
      · rw [if_pos y1, if_pos ⟨rfl, y1⟩]
      · rw [if_neg y1, if_neg (show ¬ (true = true ∧ k = 107 ∧ s = m) from fun z => y1 z.2)]
        show (if k = 109 ∧ 1024 * m + 64 * N ≤ s ∧ s < 1024 * m + 64 * N + ((List.range Z).map fun j => wg W 149 (64 * i + j)).length then ((List.range Z).map fun j => wg W 149 (64 * i + j)).getD (s - (1024 * m + 64 * N)) 0 else wg (wset (wset W 152 i 0) 108 (16 * m + N) (wg W 150 i)) k s) = _
        rw [List.length_map, List.length_range, wg_wset, wg_wset]
        by_cases y2 : k = 109 ∧ 1024 * m + 64 * N ≤ s ∧ s < 1024 * m + 64 * N + Z
        · rw [if_pos y2, if_pos ⟨rfl, y2⟩, List.getD_eq_getElem?_getD, List.getElem?_map, List.getElem?_range (by omega)]
          rfl
        · rw [if_neg y2, if_neg (show ¬ (true = true ∧ k = 109 ∧ 1024 * m + 64 * N ≤ s ∧ s < 1024 * m + 64 * N + Z) from fun z => y2 z.2)]
          by_cases y3 : k = 108 ∧ s = 16 * m + N
          · rw [if_pos y3, if_pos ⟨rfl, y3⟩]
          · rw [if_neg y3, if_neg (show ¬ (true = true ∧ k = 108 ∧ s = 16 * m + N) from fun z => y3 z.2)]
  have v2 : V.2 = W.2 := by
    rw [hV]
    unfold givR
    dsimp only
    split <;> rfl
  have gn : ∀ k s, ¬ (34 ≤ k ∧ k ≤ 38) → gI τ k s = gI σ k s := fun k s y => by
    rw [g, if_neg (by omega), if_neg (by omega), if_neg (by omega), if_neg (by omega)]
  have gm : ∀ k s, (k = 34 ∧ ¬ s = m) ∨ (k = 35 ∧ ¬ s = 16 * m + N) ∨ k = 36 ∨ (k = 37 ∧ ¬ s = 32 * m + C) ∨ (k = 38 ∧ ¬ s = m) → gI τ k s = gI σ k s := fun k s y => by
    rw [g, if_neg (by omega), if_neg (by omega), if_neg (by omega), if_neg (by omega)]
  have vn : ∀ k s, ¬ (107 ≤ k ∧ k ≤ 109 ∨ k = 152) → wg V k s = wg W k s := fun k s y => by
    rw [v, if_neg (by omega), if_neg (by omega), if_neg (by omega), if_neg (by omega)]
  have vm : ∀ k s, (k = 107 ∧ ¬ s = m) ∨ (k = 108 ∧ ¬ s / 16 = m) ∨ (k = 109 ∧ ¬ s / 1024 = m) ∨ (k = 152 ∧ ¬ s = i) → wg V k s = wg W k s := fun k s y => by
    rw [v, if_neg (by omega), if_neg (by omega), if_neg (by omega), if_neg (by omega)]
  have u2 : wg V 152 i = 0 := by rw [v, if_neg (by omega), if_neg (by omega), if_neg (by omega), if_pos ⟨rfl, rfl⟩]
  have g7c : gI τ 37 (32 * m + C) = if fl = true then 2 else 0 := by rw [g, if_neg (by omega), if_neg (by omega), if_pos ⟨rfl, rfl⟩]
  have hl : ∀ j, hldR W j = hldR V j + (if j = m then 1 else 0) := fun j => hld_1 (i := i) hi (fun s z => (vm 152 s (by omega)).symm) (fun s _ => (vn 151 s (by omega)).symm) u2 hh em
  have hd : ∀ j, j < 64 → ¬ wg V 152 j = 0 → ¬ j = i ∧ ¬ wg W 152 j = 0 ∧ ¬ φ j = φ i := fun j hj z => by
    have ne : ¬ j = i := fun y => z (by rw [y]; exact u2)
    rw [vm 152 j (by omega)] at z
    exact ⟨ne, z, fun y => ne (hJ j i hj hi z hh y)⟩
  refine ⟨τ, t, ⟨⟨fun j hj => ?_, fun j hj => ?_, fun j j' hj hj' z1 z2 e => ?_⟩, wldA_v hA pk (fun k s z => gn _ _ (by omega)) (lg _ _) (lg _ _) (fun k s z => by rw [← hV]; exact vn _ _ (by omega)) (by rw [← hV]; exact v2)⟩, g2, gn⟩
  · rw [← hV]
    obtain ⟨b1, b2, b3, b4, b5, b6⟩ := hM j hj
    have nb1 : wcK τ V j := wcK_q b1 (fun k z => gn _ _ (by omega)) (fun k z => vn _ _ (by omega))
    by_cases ej : j = m
    · subst ej
      have v6 : wg V 96 j = 3 := (vn _ _ (by omega)).trans p7
      have v7 : wg V 107 j = if fl = true then (N : Int) + 1 else (N : Int) := by
        rw [v]
        cases fl with
        | false => rw [if_neg (fun z => absurd z.1 (by decide)), if_neg (fun z => absurd z.1 (by decide)), if_neg (fun z => absurd z.1 (by decide)), if_neg (by omega), if_neg (by decide), e7]
        | true => rw [if_pos ⟨rfl, rfl, rfl⟩, if_pos rfl]
      have old : ∀ e : Nat, e < N → (0 ≤ gI σ 35 (16 * j + e) ∧ gI σ 35 (16 * j + e) < 16) ∧ ¬ (gI σ 35 (16 * j + e)).toNat = C ∧ gI τ 35 (16 * j + e) = gI σ 35 (16 * j + e) := fun e he => by
        obtain ⟨x1, x2, _⟩ := r3 e (by omega)
        refine ⟨x1, fun y => ?_, gm _ _ (by omega)⟩
        rw [y, p3] at x2
        exact absurd x2 (by decide)
      refine ⟨nb1, fun z => by omega, ⟨fun z => by omega, fun z => by omega⟩, fun _ => ⟨⟨?_, ?_⟩, ?_, fun e he => ?_⟩, fun _ x hx y => ?_, fun z => absurd ((vn 95 j (by omega)).symm.trans z) p8⟩
      · rw [v7, g]
        cases fl with
        | false => rw [if_neg (by decide), if_neg (fun z => absurd z.1 (by decide)), if_neg (fun z => absurd z.1 (by decide)), if_neg (by omega), if_neg (by omega), eN]
        | true => rw [if_pos rfl, if_pos ⟨rfl, rfl, rfl⟩]
      · rw [v7]
        split <;> omega
      · have := hl j
        rw [if_pos rfl] at this
        rw [g, if_neg (by omega), if_neg (by omega), if_neg (by omega), if_pos ⟨rfl, rfl⟩]
        omega
      · by_cases new : fl = true ∧ e = N
        · obtain ⟨f1, eN'⟩ := new
          have g5 : gI τ 35 (16 * j + e) = (C : Int) := by rw [g, if_neg (by omega), if_pos ⟨f1, rfl, by omega⟩]
          have v8 : wg V 108 (16 * j + e) = wg W 150 i := by rw [v, if_neg (by omega), if_neg (by omega), if_pos ⟨f1, rfl, by omega⟩]
          rw [g5, Int.toNat_natCast, g7c, if_pos f1, v8, gm 36 _ (by omega), ← eφ]
          refine ⟨by omega, rfl, ⟨p4.symm, i5.2.2⟩, fun b hb => ?_, fun e' he' y => ?_⟩
          · rw [v, if_neg (by omega), if_pos ⟨f1, rfl, by omega, by omega⟩, gn 27 _ (by omega), ← p5 b (by omega)]
            exact congrArg (wg W 149) (by omega)
          · rw [v7, if_pos f1] at he'
            refine Decidable.byContradiction fun ne => ?_
            obtain ⟨x1, x2, x3⟩ := old e' (by omega)
            rw [x3] at y
            exact x2 (by omega)
        · have heN : e < N := by
            rw [v7] at he
            split at he
            · rename_i f1
              have : ¬ e = N := fun y => new ⟨f1, y⟩
              omega
            · omega
          obtain ⟨x1, x2, x3⟩ := old e heN
          obtain ⟨q1, q2, q3, q4, q5⟩ := r3 e (by omega)
          have v8 : wg V 108 (16 * j + e) = wg W 108 (16 * j + e) := by rw [v, if_neg (by omega), if_neg (by omega), if_neg (by omega), if_neg (by omega)]
          rw [x3, gm 37 _ (by omega), gm 36 _ (by omega), v8]
          refine ⟨q1, q2, q3, fun b hb => ?_, fun e' he' y => ?_⟩
          · rw [gn 27 _ (by omega), v, if_neg (by omega), if_neg (by omega), if_neg (by omega), if_neg (by omega)]
            exact q4 b hb
          · by_cases new' : fl = true ∧ e' = N
            · obtain ⟨f1, eN'⟩ := new'
              have g5 : gI τ 35 (16 * j + e') = (C : Int) := by rw [g, if_neg (by omega), if_pos ⟨f1, rfl, by omega⟩]
              rw [g5] at y
              exact absurd (show (gI σ 35 (16 * j + e)).toNat = C by omega) x2
            · have heN' : e' < N := by
                rw [v7] at he'
                split at he'
                · rename_i f1
                  have : ¬ e' = N := fun y => new' ⟨f1, y⟩
                  omega
                · omega
              rw [(old e' heN').2.2] at y
              exact q5 e' (by omega) y
      · by_cases xC : x = C
        · subst xC
          rw [g7c] at y
          cases fl with
          | false => exact absurd (if_neg (by decide)) y
          | true => exact ⟨hC, Or.inr ⟨N, by rw [v7, if_pos rfl]; omega, by rw [g, if_neg (by omega), if_pos ⟨rfl, rfl, rfl⟩]⟩⟩
        · rw [gm 37 _ (by omega)] at y
          obtain ⟨x16, q⟩ := a5 p7 x hx y
          refine ⟨x16, ?_⟩
          rcases q with ⟨j', j1, j2, j3⟩ | ⟨e, e1, e2⟩
          · have ne : ¬ j' = i := fun z => by
              rw [z, eφ] at j3
              omega
            exact Or.inl ⟨j', j1, by rw [vm 152 j' (by omega)]; exact j2, j3⟩
          · exact Or.inr ⟨e, by rw [v7]; split <;> omega, by rw [(old e (by omega)).2.2]; exact e2⟩
    · refine ⟨nb1, wcT_q b2 (fun k s z => ?_) (fun k s z => vn _ _ (by omega)) (fun z => by rw [gn _ _ (by omega)]; exact z), wcP_q b3 (fun k s z => gm _ _ (by omega)) (fun k s z => vn _ _ (by omega)), wcR_q b4 (fun k s z => gm _ _ (by omega)) (fun z e b he hb => gn _ _ (by omega)) (fun k s z => ?_) (by have := hl j; rw [if_neg ej, Nat.add_zero] at this; exact this.symm), fun z x hx y => ?_, wcN_q b6 (fun k s z => gm _ _ (by omega)) (fun k s z => ?_)⟩
      · rw [g, if_neg (by omega), if_neg (by omega), if_neg (by omega), if_neg (by omega)]
      · rw [v, if_neg (by omega), if_neg (by omega), if_neg (by omega), if_neg (by omega)]
      · rw [vn _ _ (by omega)] at z
        rw [gm _ _ (by omega)] at y
        obtain ⟨x16, q⟩ := b5 z x hx y
        have r16 := (b4 z).1.2
        refine ⟨x16, ?_⟩
        rcases q with ⟨j', j1, j2, j3⟩ | ⟨e, e1, e2⟩
        · have ne : ¬ j' = i := fun z => by
            rw [z, eφ] at j3
            omega
          exact Or.inl ⟨j', j1, by rw [vm 152 j' (by omega)]; exact j2, j3⟩
        · exact Or.inr ⟨e, by rw [vm 107 _ (by omega)]; exact e1, by rw [gm _ _ (by omega)]; exact e2⟩
      · rw [v, if_neg (by omega), if_neg (by omega), if_neg (by omega), if_neg (by omega)]
  · rw [← hV]
    intro z
    obtain ⟨ne, z', nφ⟩ := hd j hj z
    obtain ⟨x1, x2, x3, x4, x5, x6, x7, x8⟩ := hH j hj z'
    rw [vn 151 _ (by omega), vn 150 _ (by omega)]
    refine ⟨x1, x2, ?_, ?_, fun b hb => ?_, x6, ?_, ?_⟩
    · rw [gm 37 _ (by omega)]
      exact x3
    · rw [gm 36 _ (by omega)]
      exact x4
    · rw [vn _ _ (by omega), gn _ _ (by omega)]
      exact x5 b hb
    · rw [vn _ _ (by omega)]
      exact x7
    · rw [vn _ _ (by omega)]
      exact x8
  · rw [← hV] at z1 z2
    exact hJ j j' hj hj' (hd j hj z1).2.1 (hd j' hj' z2).2.1 e
/-! a machine of which the rest changed -/
theorem RelC_u (h : RelC σ φ c) (g6 : gI τ 71 6 = gI σ 71 6) (gl : ∀ k s, k = 76 ∨ k = 77 → gL τ k s = gL σ k s) (g78 : ∀ s, gI τ 78 s = gI σ 78 s) (gs : ∀ s, 256 ≤ s → s < 768 → gI τ 27 s = gI σ 27 s)
    (hR : ∀ f r, R' f r = cR c f r ∨ R' f r = nilR) (hS : ∀ f b, S' f b = cS c f b ∨ S' f b = (0, 0, 0#64)) (hl : livC (p', cN c, R', S', cB c, V)) (wl : wldC τ φ V) : RelC τ φ (p', cN c, R', S', cB c, V) := by
  obtain ⟨⟨a1, a2⟩, ⟨b1, b2, b3⟩, d, bk, _, _⟩ := h
  have vl : ∀ k j f r, k = 76 ∨ k = 77 → vlC σ φ k j (cR c f r) → vlC τ φ k j (R' f r) := fun k j f r hk q => by
    rcases hR f r with e | e
    · rw [e]
      exact ⟨q.1, fun z => (gl _ _ hk).trans (q.2 z)⟩
    · rw [e]
      exact ⟨okSV_n, fun z => absurd (show nilR.1 = 6 from rfl) z⟩
  refine ⟨⟨a1, g6.trans a2⟩, ⟨fun r hr => vl _ _ _ _ (Or.inl rfl) (b1 r hr), fun f r hf hr => vl _ _ _ _ (Or.inr rfl) (b2 f r hf hr), (gl _ _ (Or.inl rfl)).trans b3⟩, fun f b hf hb => ?_, fun f f1 f2 => (g78 _).trans (bk f f1 f2), hl, wl⟩
  show mbC φ (gI τ 27 (256 + 128 * f + b)) (S' f b)
  rcases hS f b with e | e
  · rw [e, gs _ (by omega) (by omega)]
    exact d f b hf hb
  · rw [e]
    exact ⟨fun z => absurd z (show ¬ (0 : Nat) = 1 by decide), fun z => absurd z (show ¬ 2 ≤ (0 : Nat) by decide)⟩
theorem RelC_w (h : RelC σ φ c) (g6 : gI τ 71 6 = gI σ 71 6) (gl : ∀ k s, k = 76 ∨ k = 77 → gL τ k s = gL σ k s) (g78 : ∀ s, gI τ 78 s = gI σ 78 s) (gs : ∀ s, 256 ≤ s → s < 768 → gI τ 27 s = gI σ 27 s)
    (h2 : ∀ i, i < 64 → ¬ wg (cW c) 152 i = 0 → ¬ wg V 152 i = 0) (wl : wldC τ φ V) : RelC τ φ (p', cN c, cR c, cS c, cB c, V) := by
  refine RelC_u h g6 gl g78 gs (fun _ _ => Or.inl rfl) (fun _ _ => Or.inl rfl) ⟨fun f r z => ?_, fun f b z y => ?_⟩ wl
  · have := h.2.2.2.2.1.1 f r z
    exact ⟨this.1, h2 ((cR c f r).1 - 300) (by omega) this.2⟩
  · have := h.2.2.2.2.1.2 f b z y
    exact ⟨this.1, h2 ((cS c f b).2.1 - 300) (by omega) this.2⟩
/-- other places for records that aren't held -/
theorem RelC_p (h : RelC σ φ c) (hψ : ∀ i, i < 64 → ¬ wg (cW c) 152 i = 0 → ψ i = φ i) (wl : wldC σ ψ (cW c)) : RelC σ ψ c := by
  obtain ⟨⟨a1, a2⟩, ⟨b1, b2, b3⟩, d, bk, ⟨l1, l2⟩, _⟩ := h
  have ad : ∀ o, (300 ≤ o → o ≤ 363 ∧ ¬ wg (cW c) 152 (o - 300) = 0) → adC ψ o = adC φ o := fun o ho => by
    unfold adC plC
    by_cases q : 300 ≤ o ∧ o ≤ 363
    · rw [hψ (o - 300) (by omega) (ho q.1).2]
    · rw [if_neg q, if_neg q]
  have en : ∀ v : SV, (300 ≤ v.1 → v.1 ≤ 363 ∧ ¬ wg (cW c) 152 (v.1 - 300) = 0) → enK ψ v = enK φ v := fun v hv => by
    show (if v.1 = 0 then v.2 else adC ψ v.1 + v.2) = (if v.1 = 0 then v.2 else adC φ v.1 + v.2)
    rw [ad v.1 hv]
  refine ⟨⟨a1, a2⟩, ⟨fun r hr => ⟨(b1 r hr).1, fun z => ?_⟩, fun f r hf hr => ⟨(b2 f r hf hr).1, fun z => ?_⟩, ?_⟩, fun f b hf hb => ⟨(d f b hf hb).1, fun z1 z2 => ?_⟩, bk, ⟨l1, l2⟩, wl⟩
  · rw [en _ (l1 _ _)]
    exact (b1 r hr).2 z
  · rw [en _ (l1 _ _)]
    exact (b2 f r hf hr).2 z
  · rw [en _ (fun z => by have z : 300 ≤ cN c + 1 := z; omega)]
    exact b3
  · rw [en _ (l2 f b z1)]
    exact (d f b hf hb).2 z1 z2
end CGIV
