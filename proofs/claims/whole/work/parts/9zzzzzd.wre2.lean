/-! ===== maps from outside: next, map: the rest of the machine, the class ===== -/
section WRE2
variable {σ τ ρ υ A B : MS} {W V : WR} {m n p q e j i c k s z N : Nat} {x y f kd1 key value most : Int} {E : EV} {φ ψ : Nat → Nat} {L : List Int}
theorem nxW (k s : Nat) : wg (nexW W m N) k s = if k = 107 ∧ s = m then (N : Int) else if k = 108 ∧ 16 * m ≤ s ∧ s < 16 * m + N then wg W 108 (s + 1) else if k = 109 ∧ 1024 * m ≤ s ∧ s < 1024 * m + 64 * N then wg W 109 (s + 64) else wg W k s := rfl
theorem next_C (wo : wldO σ W) (hI : invW W) (hm : m < 8) (k3 : wg W 96 m = 3) (k95 : ¬ wg W 95 m = 0) (hN : wg W 107 m = ((N + 1 : Nat) : Int)) (N16 : N < 16) (hc : gI σ 35 (16 * m) = (c : Int)) (h2 : υ.2 = σ.2) (g : ∀ k s, gI υ k s = if k = 34 ∧ s = m then (N : Int) else if k = 35 ∧ 16 * m ≤ s ∧ s < 16 * m + N then gI σ 35 (s + 1) else if k = 37 ∧ s = 32 * m + c then 0 else gI σ k s) : wldO υ (nexW W m N) := by
  have pk := hI.2.2.2.1.1.2
  obtain ⟨a1, a2, a3, a4, a5, a6⟩ := wo.1.1 m hm
  obtain ⟨⟨r1, r2⟩, r3, r4⟩ := a4 k3
  have v : ∀ k s, ¬ (107 ≤ k ∧ k ≤ 109) → wg (nexW W m N) k s = wg W k s := fun k s z => by rw [nxW, if_neg (by omega), if_neg (by omega), if_neg (by omega)]
  have l : ∀ s, gL υ 71 s = gL σ 71 s := fun s => by unfold gL; rw [h2]
  have h0 : ∀ i, i < 64 → wg (nexW W m N) 152 i = 0 := fun i hi => by
    rw [v _ _ (by omega)]
    exact wo.2.1 i hi
  obtain ⟨⟨c0, c1⟩, c2, _, _, cinj⟩ := r4 0 (by omega)
  rw [Nat.add_zero] at c0 c1 c2
  rw [hc] at c0 c1 c2
  refine wldO_m wo pk (wldM_1 (m := m) wo.1 hm h0 wo.2.1 (fun k s z1 z2 => by rw [g, if_neg (by omega), if_neg (by omega), if_neg (by omega)]) (by rw [g, if_neg (by omega), if_neg (by omega), if_neg (by omega)]) (fun s _ => by rw [g, if_neg (by omega), if_neg (by omega), if_neg (by omega)]) (fun k s z1 z2 => by rw [nxW, if_neg (by omega), if_neg (by omega), if_neg (by omega)]) ⟨?_, fun z => ?_, ⟨fun z => ?_, fun z => ?_⟩, fun z => ?_, fun z => ?_, fun z => ?_⟩) (fun k s z => by rw [g, if_neg (by omega), if_neg (by omega), if_neg (by omega)]) (fun s _ => l s) (fun k s z => v _ _ (by omega)) rfl
  · exact wcK_q a1 (fun k z => by rw [g, if_neg (by omega), if_neg (by omega), if_neg (by omega)]) (fun k z => v _ _ (by omega))
  · rw [v _ _ (by omega), k3] at z
    exact absurd z (by decide)
  · rw [v _ _ (by omega), k3] at z
    exact absurd z (by decide)
  · rw [v _ _ (by omega), k3] at z
    exact absurd z (by decide)
  · refine ⟨⟨?_, ?_⟩, ?_, fun e he => ?_⟩
    · rw [nxW, if_pos ⟨rfl, rfl⟩, g, if_pos ⟨rfl, rfl⟩]
    · rw [nxW, if_pos ⟨rfl, rfl⟩]
      omega
    · rw [hld_z m h0, g, if_neg (by omega), if_neg (by omega), if_neg (by omega), ← r3, hld_z m wo.2.1]
    · rw [nxW, if_pos ⟨rfl, rfl⟩] at he
      have eN : e < N := by omega
      obtain ⟨⟨q1, q2⟩, q3, ⟨q4, q5⟩, q6, q7⟩ := r4 (e + 1) (by omega)
      have e35 : ∀ e, e < N → gI υ 35 (16 * m + e) = gI σ 35 (16 * m + (e + 1)) := fun e h => by rw [g, if_neg (by omega), if_pos ⟨rfl, by omega, by omega⟩, Nat.add_assoc]
      have nc : ¬ (gI σ 35 (16 * m + (e + 1))).toNat = c := fun y => by
        have hc' : gI σ 35 (16 * m + 0) = (c : Int) := hc
        have q0 : (e + 1 = 0) := cinj (e + 1) (by omega) (by rw [hc']; omega)
        omega
      have v8 : wg (nexW W m N) 108 (16 * m + e) = wg W 108 (16 * m + (e + 1)) := by rw [nxW, if_neg (by omega), if_pos ⟨rfl, by omega, by omega⟩, Nat.add_assoc]
      rw [e35 e eN, v8]
      refine ⟨⟨q1, q2⟩, ?_, ⟨?_, q5⟩, fun b hb => ?_, fun e' he' y => ?_⟩
      · rw [g, if_neg (by omega), if_neg (by omega), if_neg (by omega)]
        exact q3
      · rw [g, if_neg (by omega), if_neg (by omega), if_neg (by omega)]
        exact q4
      · have b64 : b < 64 := by omega
        rw [nxW, if_neg (by omega), if_neg (by omega), if_pos ⟨rfl, by omega, by omega⟩, show 1024 * m + 64 * e + b + 64 = 1024 * m + 64 * (e + 1) + b by omega, g, if_neg (by omega), if_neg (by omega), if_neg (by omega)]
        exact q6 b hb
      · rw [nxW, if_pos ⟨rfl, rfl⟩] at he'
        rw [e35 e' (by omega)] at y
        have := q7 (e' + 1) (by omega) y
        omega
  · intro i hi n37
    rw [g, if_neg (by omega), if_neg (by omega)] at n37
    by_cases ci : i = c
    · rw [if_pos ⟨rfl, by rw [ci]⟩] at n37
      exact absurd rfl n37
    · rw [if_neg (by omega)] at n37
      obtain ⟨q1, q2⟩ := a5 k3 i hi n37
      refine ⟨q1, ?_⟩
      rcases q2 with ⟨j, j1, j2, _⟩ | ⟨e, e1, e2⟩
      · exact absurd (wo.2.1 j j1) j2
      · have e0 : ¬ e = 0 := fun y => by
          rw [y, Nat.add_zero, hc] at e2
          omega
        refine Or.inr ⟨e - 1, ?_, ?_⟩
        · rw [nxW, if_pos ⟨rfl, rfl⟩]
          omega
        · rw [g, if_neg (by omega), if_pos ⟨rfl, by omega, by omega⟩, show 16 * m + (e - 1) + 1 = 16 * m + e by omega]
          exact e2
  · rw [v _ _ (by omega)] at z
    exact absurd z k95
theorem next_I (hI : invW W) (hm : m < 8) (hN : wg W 107 m = ((N + 1 : Nat) : Int)) : invW (nexW W m N) := by
  obtain ⟨h1, h2, h3, h4, h5, h6, h7⟩ := hI
  have v : ∀ k s, ¬ (107 ≤ k ∧ k ≤ 109) → wg (nexW W m N) k s = wg W k s := fun k s z => by rw [nxW, if_neg (by omega), if_neg (by omega), if_neg (by omega)]
  refine ⟨fun m hm => ?_, fun m e hm he => ?_, fun k s hk => ?_, ?_, fun i hi hh => ?_, fun m' hm' => ?_, fun m x hm hx => ?_⟩
  · rw [v 97 _ (by omega), v 98 _ (by omega), v 99 _ (by omega), v 101 _ (by omega), v 96 _ (by omega)]
    exact h1 m hm
  · rw [v 101 _ (by omega)] at he
    rw [v 103 _ (by omega)]
    exact h2 m e hm he
  · rw [v k _ (by omega)]
    exact h3 k s hk
  · rw [v 80 _ (by omega), v 80 _ (by omega), v 80 _ (by omega)]
    exact h4
  · rw [v 152 _ (by omega)] at hh
    rw [v 151 _ (by omega), v 150 _ (by omega)]
    exact h5 i hi hh
  · rw [v 99 _ (by omega), hld_e (V := nexW W m N) (W := W) (fun s => v _ _ (by omega)) (fun s => v _ _ (by omega)), nxW]
    have q := h6 m' hm'
    by_cases c : m' = m
    · rw [if_pos ⟨rfl, c⟩]
      rw [c] at q ⊢
      omega
    · rw [if_neg (by omega), if_neg (by omega), if_neg (by omega)]
      exact q
  · rw [v 106 _ (by omega)]
    exact h7 m x hm hx
/-! map -/
theorem tlW (k s : Nat) : wg (telW W m kd1 key value most) k s = if k = 106 ∧ 16 * m ≤ s ∧ s < 16 * m + 16 then -1 else if k = 99 ∧ s = m then most else if k = 98 ∧ s = m then value else if k = 97 ∧ s = m then key else if k = 96 ∧ s = m then kd1 else if k = 95 ∧ s = m then 1 else wg W k s := rfl
theorem tlW_o (h : ¬ ((95 ≤ k ∧ k ≤ 99 ∧ s = m) ∨ k = 106 ∧ 16 * m ≤ s ∧ s < 16 * m + 16)) : wg (telW W m kd1 key value most) k s = wg W k s := by
  rw [tlW, if_neg (by omega), if_neg (by omega), if_neg (by omega), if_neg (by omega), if_neg (by omega), if_neg (by omega)]
theorem tlC_o (h : ¬ ((29 ≤ k ∧ k ≤ 34 ∧ s = m) ∨ k = 35 ∧ 16 * m ≤ s ∧ s < 16 * m + 16)) : tlC σ m kd1 key value most k s = gI σ k s := by
  unfold tlC
  rw [if_neg (by omega), if_neg (by omega), if_neg (by omega), if_neg (by omega), if_neg (by omega), if_neg (by omega), if_neg (by omega)]
theorem cnJ_n (g : Nat → Int) (n : Nat) (h : ∀ x, x < n → g x < 0) : cnJ g n = 0 := by
  induction n with
  | zero => rfl
  | succ n ih =>
    show cnJ g n + (if g n < 0 then 0 else 1) = 0
    rw [ih (fun x hx => h x (by omega)), if_pos (h n (by omega))]
    rfl
theorem tell_C (wo : wldO σ W) (hI : invW W) (hm : m < 8) (k95 : wg W 95 m = 0) (h2 : τ.2 = σ.2) (g : ∀ k s, gI τ k s = tlC σ m kd1 key value most k s) : wldO τ (telW W m kd1 key value most) := by
  have pk := hI.2.2.2.1.1.2
  obtain ⟨a1, a2, a3, a4, a5, a6⟩ := wo.1.1 m hm
  obtain ⟨⟨n1, n2, n3, n4⟩, n5, n6⟩ := a6 k95
  have l : ∀ s, gL τ 71 s = gL σ 71 s := fun s => by unfold gL; rw [h2]
  have h0 : ∀ i, i < 64 → wg (telW W m kd1 key value most) 152 i = 0 := fun i hi => by
    rw [tlW_o (by omega)]
    exact wo.2.1 i hi
  have v96 : wg (telW W m kd1 key value most) 96 m = kd1 := by rw [tlW, if_neg (by omega), if_neg (by omega), if_neg (by omega), if_neg (by omega), if_pos ⟨rfl, rfl⟩]
  have v99 : wg (telW W m kd1 key value most) 99 m = most := by rw [tlW, if_neg (by omega), if_pos ⟨rfl, rfl⟩]
  have g34 : gI τ 34 m = if kd1 = 0 then most else 0 := by
    rw [g]
    unfold tlC
    rw [if_neg (by omega), if_pos ⟨rfl, rfl⟩]
  have g37 : ∀ i, i < 32 → gI τ 37 (32 * m + i) = 0 := fun i hi => by
    rw [g, tlC_o (by omega)]
    exact (n5 i hi).2.2
  refine wldO_m wo pk (wldM_1 (m := m) wo.1 hm h0 wo.2.1 (fun k s z1 z2 => by rw [g, tlC_o (by omega)]) (by rw [g, tlC_o (by omega)]) (fun s _ => by rw [g, tlC_o (by omega)]) (fun k s z1 z2 => tlW_o (by omega)) ⟨⟨?_, ?_, ?_, ?_, ?_⟩, fun z => ?_, ⟨fun z => ⟨fun x hx => ?_, ?_⟩, fun z => ?_⟩, fun z => ?_, fun z i hi y => absurd (g37 i hi) y, fun z => ?_⟩) (fun k s z => by rw [g, tlC_o (by omega)]) (fun s _ => l s) (fun k s z => tlW_o (by omega)) rfl
  · rw [tlW, if_neg (by omega), if_neg (by omega), if_neg (by omega), if_neg (by omega), if_neg (by omega), if_pos ⟨rfl, rfl⟩, g]
    unfold tlC
    rw [if_neg (by omega), if_neg (by omega), if_neg (by omega), if_neg (by omega), if_neg (by omega), if_neg (by omega), if_pos ⟨rfl, rfl⟩]
  · rw [v96, g]
    unfold tlC
    rw [if_neg (by omega), if_neg (by omega), if_neg (by omega), if_neg (by omega), if_neg (by omega), if_pos ⟨rfl, rfl⟩]
  · rw [tlW, if_neg (by omega), if_neg (by omega), if_neg (by omega), if_pos ⟨rfl, rfl⟩, g]
    unfold tlC
    rw [if_neg (by omega), if_neg (by omega), if_neg (by omega), if_neg (by omega), if_pos ⟨rfl, rfl⟩]
  · rw [tlW, if_neg (by omega), if_neg (by omega), if_pos ⟨rfl, rfl⟩, g]
    unfold tlC
    rw [if_neg (by omega), if_neg (by omega), if_neg (by omega), if_pos ⟨rfl, rfl⟩]
  · rw [v99, g]
    unfold tlC
    rw [if_neg (by omega), if_neg (by omega), if_pos ⟨rfl, rfl⟩]
  · rw [v96] at z
    have v1 : wg (telW W m kd1 key value most) 101 m = 0 := by
      rw [tlW_o (by omega)]
      exact n2
    refine ⟨⟨?_, ?_⟩, fun e he => ?_, fun i hi => ?_⟩
    · rw [v1, g34, if_neg (by omega)]
    · rw [v1]
      decide
    · rw [v1] at he
      omega
    · obtain ⟨b1, b2', b3⟩ := n5 i hi
      rw [tlW_o (k := 104) (by omega), tlW_o (k := 105) (by omega), g37 i hi, b1, b2']
      exact ⟨Iff.rfl, ⟨fun q => absurd rfl q, fun q => absurd q (by decide)⟩, fun q => absurd q (by decide), Or.inl rfl⟩
  · rw [tlW, if_pos ⟨rfl, by omega, by omega⟩, g]
    unfold tlC
    rw [if_pos ⟨rfl, by omega, by omega⟩]
  · rw [v96] at z
    rw [g34, if_neg (by omega), cnP_J, cnJ_n _ 16 fun x hx => ?_]
    show wg (telW W m kd1 key value most) 106 (16 * m + x) < 0
    rw [tlW, if_pos ⟨rfl, by omega, by omega⟩]
    decide
  · rw [v96] at z
    rw [g34, if_pos z, v99]
  · rw [v96] at z
    have v7 : wg (telW W m kd1 key value most) 107 m = 0 := by
      rw [tlW_o (by omega)]
      exact n3
    refine ⟨⟨?_, ?_⟩, ?_, fun e he => ?_⟩
    · rw [v7, g34, if_neg (by omega)]
    · rw [v7]
      decide
    · rw [hld_z m h0, g, tlC_o (by omega), n4]
      rfl
    · rw [v7] at he
      omega
  · rw [tlW, if_neg (by omega), if_neg (by omega), if_neg (by omega), if_neg (by omega), if_neg (by omega), if_pos ⟨rfl, rfl⟩] at z
    exact absurd z (by decide)
theorem tell_I (wo : wldO σ W) (hI : invW W) (hm : m < 8) (k95 : wg W 95 m = 0) (hs : shpM kd1 key value) (ht : 1 ≤ most ∧ most ≤ 16) : invW (telW W m kd1 key value most) := by
  obtain ⟨h1, h2, h3, h4, h5, h6, h7⟩ := hI
  obtain ⟨⟨n1, n2, n3, n4⟩, n5, n6⟩ := (wo.1.1 m hm).2.2.2.2.2 k95
  have v96 : wg (telW W m kd1 key value most) 96 m = kd1 := by rw [tlW, if_neg (by omega), if_neg (by omega), if_neg (by omega), if_neg (by omega), if_pos ⟨rfl, rfl⟩]
  have v97 : wg (telW W m kd1 key value most) 97 m = key := by rw [tlW, if_neg (by omega), if_neg (by omega), if_neg (by omega), if_pos ⟨rfl, rfl⟩]
  have v98 : wg (telW W m kd1 key value most) 98 m = value := by rw [tlW, if_neg (by omega), if_neg (by omega), if_pos ⟨rfl, rfl⟩]
  have v99 : wg (telW W m kd1 key value most) 99 m = most := by rw [tlW, if_neg (by omega), if_pos ⟨rfl, rfl⟩]
  refine ⟨fun m' hm' => ?_, fun m' e hm' he => ?_, fun k s hk => ?_, ?_, fun i hi hh => ?_, fun m' hm' => ?_, fun m' x hm' hx => ?_⟩
  · by_cases c : m' = m
    · rw [c, v97, v98, v99, v96, tlW_o (k := 101) (by omega), n2]
      omega
    · rw [tlW_o (k := 97) (by omega), tlW_o (k := 98) (by omega), tlW_o (k := 99) (by omega), tlW_o (k := 101) (by omega), tlW_o (k := 96) (by omega)]
      exact h1 m' hm'
  · rw [tlW_o (k := 101) (by omega)] at he
    rw [tlW_o (k := 103) (by omega)]
    exact h2 m' e hm' he
  · rw [tlW_o (by omega)]
    exact h3 k s hk
  · rw [tlW_o (by omega), tlW_o (by omega), tlW_o (by omega)]
    exact h4
  · rw [tlW_o (k := 152) (by omega)] at hh
    rw [tlW_o (k := 151) (by omega), tlW_o (k := 150) (by omega)]
    exact h5 i hi hh
  · have q := h6 m' hm'
    rw [tlW_o (k := 107) (by omega), hld_e (V := telW W m kd1 key value most) (W := W) (fun s => tlW_o (by omega)) (fun s => tlW_o (by omega))]
    by_cases c : m' = m
    · rw [c, v99, n3, hld_z m wo.2.1]
      omega
    · rw [tlW_o (k := 99) (by omega)]
      exact q
  · by_cases c : m' = m
    · rw [c, tlW, if_pos ⟨rfl, by omega, by omega⟩]
      decide
    · rw [tlW_o (by omega)]
      exact h7 m' x hm' hx
end WRE2
