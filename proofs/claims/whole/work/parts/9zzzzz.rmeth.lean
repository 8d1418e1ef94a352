/-! ===== the reference's maps from outside ===== -/
section RMETH
variable {σ τ ρ υ A B : MS} {W V : WR} {m n p q e j i c k s z K : Nat} {x y f : Int} {E : EV} {φ ψ : Nat → Nat} {L : List Int} {key val : List Int}
theorem EO_g (h : EO σ E) (g : ∀ k m, 95 ≤ k ∧ k ≤ 98 → gI τ k m = gI σ k m) : EO τ E := fun m hm => by
  rw [g 97 m (by omega), g 98 m (by omega), g 95 m (by omega), g 96 m (by omega)]
  exact h m hm
theorem T407y (C : EO σ E) (hm : m < 8) (h : 0 ≤ E.1 m ∧ E.1 m ≤ 1) : MM 407 [mR (some 80), mI (m : Int)] σ = some (some (mI 1), σ) := by
  obtain ⟨_, _, c3, c4⟩ := C m hm
  have z : ¬ gI σ 95 m = 0 := fun z => by
    have := c3 z
    omega
  have d := (c4 z).1
  rw [M407, e407_0, T331 hm]
  simp only [Option.bind_some, Option.toList_some, Option.toList_none, List.cons_append, List.nil_append]
  rw [e407_4, if_neg n10, if_pos (by rw [g_95]; omega), Int.toNat_natCast, if_neg z, if_pos (by rw [g_96]; omega), if_neg (by omega)]
theorem T407k (C : EO σ E) (h : noK E x) : MM 407 [mR (some 80), mI x] σ = some (some (mI 0), σ) := by
  by_cases c : x < 0 ∨ 8 ≤ x
  · rw [M407, e407_0, T331n c]
    simp only [Option.bind_some, Option.toList_some, Option.toList_none, List.cons_append, List.nil_append]
    rw [e407_4, if_pos rfl, e407_30]
  · have h2 := h.resolve_left c
    obtain ⟨m, rfl⟩ : ∃ m : Nat, x = (m : Int) := ⟨x.toNat, by omega⟩
    rw [Int.toNat_natCast] at h2
    have hm : m < 8 := by omega
    obtain ⟨_, _, c3, c4⟩ := C m hm
    rw [M407, e407_0, T331 hm]
    simp only [Option.bind_some, Option.toList_some, Option.toList_none, List.cons_append, List.nil_append]
    rw [e407_4, if_neg n10, if_pos (by rw [g_95]; omega), Int.toNat_natCast]
    by_cases z : gI σ 95 m = 0
    · rw [if_pos z, e407_30]
    · have d := c4 z
      rw [if_neg z, if_pos (by rw [g_96]; omega), if_pos (by omega), e407_30]
theorem T418y (C : EO σ E) (hm : m < 8) (h : E.1 m = y) (h0 : 0 ≤ y) : MM 418 [mR (some 80), mI (m : Int), mI y] σ = some (some (mI 1), σ) := by
  obtain ⟨_, _, c3, c4⟩ := C m hm
  have z : ¬ gI σ 95 m = 0 := fun z => by
    have := c3 z
    omega
  have d := (c4 z).1
  rw [M418, e418_0, T331 hm]
  simp only [Option.bind_some, Option.toList_some, Option.toList_none, List.cons_append, List.nil_append]
  rw [e418_4, if_neg n10, if_pos (by rw [g_95]; omega), Int.toNat_natCast, if_neg z, if_pos (by rw [g_96]; omega), if_neg (by omega)]
theorem T418k (C : EO σ E) (h : noM E y x) : MM 418 [mR (some 80), mI x, mI y] σ = some (some (mI 0), σ) := by
  by_cases c : x < 0 ∨ 8 ≤ x
  · rw [M418, e418_0, T331n c]
    simp only [Option.bind_some, Option.toList_some, Option.toList_none, List.cons_append, List.nil_append]
    rw [e418_4, if_pos rfl, e418_30]
  · have h2 := h.resolve_left c
    obtain ⟨m, rfl⟩ : ∃ m : Nat, x = (m : Int) := ⟨x.toNat, by omega⟩
    rw [Int.toNat_natCast] at h2
    have hm : m < 8 := by omega
    obtain ⟨_, _, c3, c4⟩ := C m hm
    rw [M418, e418_0, T331 hm]
    simp only [Option.bind_some, Option.toList_some, Option.toList_none, List.cons_append, List.nil_append]
    rw [e418_4, if_neg n10, if_pos (by rw [g_95]; omega), Int.toNat_natCast]
    by_cases z : gI σ 95 m = 0
    · rw [if_pos z, e418_30]
    · have d := c4 z
      rw [if_neg z, if_pos (by rw [g_96]; omega), if_pos (by omega), e418_30]
/-! keys and values are taken from the tape -/
theorem L413b {x3 : Int} (hm : m < 8) (hK : q ≤ 100) (hz : z ≤ 64) : ∀ (f j : Nat) (σ : MS), j + f = z → gI σ 97 m = (q : Int) → gI σ 98 m = (z : Int) → ∃ τ, RR (lkB tb413) (B413_77, [some (mR (some 80)), some (mI (m : Int)), some (mI 1), some (mI x3), some (mI (j : Int))], [], σ) = some (some (mI 1), τ) ∧ τ.2 = σ.2 ∧ ∀ k s, gI τ k s = if k = 111 ∧ j ≤ s ∧ s < z then w8 (gI σ 81 (q + s)) else gI σ k s := by
  intro f
  induction f with
  | zero =>
    intro j σ hj h7 h8
    refine ⟨σ, ?_, rfl, fun k s => by rw [if_neg (by omega)]⟩
    rw [e413_77, if_neg (by decide), if_pos (by rw [g_98]; omega), Int.toNat_natCast, h8, if_pos (by omega)]
  | succ f ih =>
    intro j σ hj h7 h8
    have e1 : w32 ((j : Int) + 1) = ((j + 1 : Nat) : Int) := by
      rw [w32_i (by omega) (by omega)]
      omega
    have e2 : w32 ((q : Int) + (j : Int)) = ((q + j : Nat) : Int) := by
      rw [w32_i (by omega) (by omega)]
      omega
    obtain ⟨τ, t1, t2, t3⟩ := ih (j + 1) (sI σ 111 j (w8 (gI σ 81 (q + j)))) (by omega) (by rw [gI_sI, if_neg (by omega)]; exact h7) (by rw [gI_sI, if_neg (by omega)]; exact h8)
    refine ⟨τ, ?_, t2, fun k s => ?_⟩
    · rw [e413_77, if_neg (by decide), if_pos (by rw [g_98]; omega), Int.toNat_natCast, h8, if_neg (by omega), if_pos (by rw [g_97]; omega), h7, e2, if_pos (by rw [g_81]; omega), if_pos (by rw [g_111]; omega), e1, Int.toNat_natCast, Int.toNat_natCast]
      exact t1
    · rw [t3, gI_sI, if_neg (show ¬ (81 = 111 ∧ q + s = j) by omega), gI_sI]
      by_cases y1 : k = 111 ∧ j + 1 ≤ s ∧ s < z
      · rw [if_pos y1, if_pos (by omega)]
      · rw [if_neg y1]
        by_cases y2 : k = 111 ∧ s = j
        · rw [if_pos y2, if_pos (by omega), y2.2]
        · rw [if_neg y2, if_neg (by omega)]
theorem L413a {x2 x3 : Int} (hm : m < 8) (hK : q ≤ 16) : ∀ (f j : Nat) (σ : MS), j + f = q → gI σ 97 m = (q : Int) → ∃ τ, RR (lkB tb413) (B413_43, [some (mR (some 80)), some (mI (m : Int)), some (mI x2), some (mI x3), some (mI (j : Int))], [], σ) = RR (lkB tb413) (B413_77, [some (mR (some 80)), some (mI (m : Int)), some (mI x2), some (mI x3), some (mI 0)], [], τ) ∧ τ.2 = σ.2 ∧ ∀ k s, gI τ k s = if k = 110 ∧ j ≤ s ∧ s < q then w8 (gI σ 81 s) else gI σ k s := by
  intro f
  induction f with
  | zero =>
    intro j σ hj h7
    refine ⟨σ, ?_, rfl, fun k s => by rw [if_neg (by omega)]⟩
    rw [e413_43, if_pos (by rw [g_97]; omega), Int.toNat_natCast, h7, if_pos (by omega)]
  | succ f ih =>
    intro j σ hj h7
    have e1 : w32 ((j : Int) + 1) = ((j + 1 : Nat) : Int) := by
      rw [w32_i (by omega) (by omega)]
      omega
    obtain ⟨τ, t1, t2, t3⟩ := ih (j + 1) (sI σ 110 j (w8 (gI σ 81 j))) (by omega) (by rw [gI_sI, if_neg (by omega)]; exact h7)
    refine ⟨τ, ?_, t2, fun k s => ?_⟩
    · rw [e413_43, if_pos (by rw [g_97]; omega), Int.toNat_natCast, h7, if_neg (by omega), if_pos (by rw [g_81]; omega), if_pos (by rw [g_110]; omega), e1, Int.toNat_natCast]
      exact t1
    · rw [t3, gI_sI, if_neg (show ¬ (81 = 110 ∧ s = j) by omega), gI_sI]
      by_cases y1 : k = 110 ∧ j + 1 ≤ s ∧ s < q
      · rw [if_pos y1, if_pos (by omega)]
      · rw [if_neg y1]
        by_cases y2 : k = 110 ∧ s = j
        · rw [if_pos y2, if_pos (by omega), y2.2]
        · rw [if_neg y2, if_neg (by omega)]
theorem T413k {x2 : Int} (C : EO σ E) (h : noK E x) : MM 413 [mR (some 80), mI x, mI x2] σ = some (some (mI 0), sI σ 80 1 0) := by
  rw [M413, e413_0, T330]
  simp only [Option.bind_some, Option.toList_some, Option.toList_none, List.cons_append, List.nil_append]
  rw [e413_4, T407k (EO_g C fun k m _ => by rw [gI_sI, if_neg (by omega)]) h]
  simp only [Option.bind_some, Option.toList_some, Option.toList_none, List.cons_append, List.nil_append]
  rw [e413_10, if_pos rfl]
theorem T413l0 (C : EO σ E) (hm : m < 8) (h : 0 ≤ E.1 m ∧ E.1 m ≤ 1) (h7 : gI σ 97 m = (q : Int)) (q16 : q ≤ 16) (hl : ¬ gI σ 80 1 = (q : Int)) : MM 413 [mR (some 80), mI (m : Int), mI 0] σ = some (some (mI 0), sI σ 80 1 0) := by
  have e7 : gI (sI σ 80 1 0) 97 m = (q : Int) := by rw [gI_sI, if_neg (by omega)]; exact h7
  rw [M413, e413_0, T330]
  simp only [Option.bind_some, Option.toList_some, Option.toList_none, List.cons_append, List.nil_append]
  rw [e413_4, T407y (EO_g C fun k m _ => by rw [gI_sI, if_neg (by omega)]) hm h]
  simp only [Option.bind_some, Option.toList_some, Option.toList_none, List.cons_append, List.nil_append]
  rw [e413_10, if_neg n10, if_pos (by rw [g_97]; omega), if_pos rfl, Int.toNat_natCast, e7, e413_34, w32_i (by omega) (by omega), Int.add_zero, if_neg hl]
theorem T413l1 (C : EO σ E) (hm : m < 8) (h : 0 ≤ E.1 m ∧ E.1 m ≤ 1) (h7 : gI σ 97 m = (q : Int)) (q16 : q ≤ 16) (h8 : gI σ 98 m = (z : Int)) (z64 : z ≤ 64) (hl : ¬ gI σ 80 1 = (q : Int) + (z : Int)) : MM 413 [mR (some 80), mI (m : Int), mI 1] σ = some (some (mI 0), sI σ 80 1 0) := by
  have e7 : gI (sI σ 80 1 0) 97 m = (q : Int) := by rw [gI_sI, if_neg (by omega)]; exact h7
  have e8 : gI (sI σ 80 1 0) 98 m = (z : Int) := by rw [gI_sI, if_neg (by omega)]; exact h8
  rw [M413, e413_0, T330]
  simp only [Option.bind_some, Option.toList_some, Option.toList_none, List.cons_append, List.nil_append]
  rw [e413_4, T407y (EO_g C fun k m _ => by rw [gI_sI, if_neg (by omega)]) hm h]
  simp only [Option.bind_some, Option.toList_some, Option.toList_none, List.cons_append, List.nil_append]
  rw [e413_10, if_neg n10, if_pos (by rw [g_97]; omega), if_neg (by decide), if_pos (by rw [g_98]; omega), Int.toNat_natCast, e7, e8, e413_34, w32_i (by omega) (by omega), if_neg hl]
theorem T413_0 (C : EO σ E) (hm : m < 8) (h : 0 ≤ E.1 m ∧ E.1 m ≤ 1) (h7 : gI σ 97 m = (q : Int)) (q16 : q ≤ 16) (hl : gI σ 80 1 = (q : Int)) : ∃ τ, MM 413 [mR (some 80), mI (m : Int), mI 0] σ = some (some (mI 1), τ) ∧ τ.2 = σ.2 ∧ ∀ k s, gI τ k s = if k = 110 ∧ s < q then w8 (gI σ 81 s) else if k = 80 ∧ s = 1 then 0 else gI σ k s := by
  have e7 : gI (sI σ 80 1 0) 97 m = (q : Int) := by rw [gI_sI, if_neg (by omega)]; exact h7
  obtain ⟨τ, t1, t2, t3⟩ := L413a (x2 := 0) (x3 := gI σ 80 1) hm q16 q 0 (sI σ 80 1 0) (by omega) e7
  refine ⟨τ, ?_, t2, fun k s => ?_⟩
  · rw [M413, e413_0, T330]
    simp only [Option.bind_some, Option.toList_some, Option.toList_none, List.cons_append, List.nil_append]
    rw [e413_4, T407y (EO_g C fun k m _ => by rw [gI_sI, if_neg (by omega)]) hm h]
    simp only [Option.bind_some, Option.toList_some, Option.toList_none, List.cons_append, List.nil_append]
    rw [e413_10, if_neg n10, if_pos (by rw [g_97]; omega), if_pos rfl, Int.toNat_natCast, e7, e413_34, w32_i (by omega) (by omega), Int.add_zero, if_pos hl]
    have t1 : RR (lkB tb413) (B413_43, [some (mR (some 80)), some (mI (m : Int)), some (mI 0), some (mI (gI σ 80 1)), some (mI 0)], [], sI σ 80 1 0) = _ := t1
    rw [t1, e413_77, if_pos rfl]
  · rw [t3, gI_sI, if_neg (show ¬ (81 = 80 ∧ s = 1) by omega), gI_sI]
    by_cases y : k = 110 ∧ s < q
    · rw [if_pos y, if_pos (by omega)]
    · rw [if_neg y, if_neg (by omega)]
theorem T413_1 (C : EO σ E) (hm : m < 8) (h : 0 ≤ E.1 m ∧ E.1 m ≤ 1) (h7 : gI σ 97 m = (q : Int)) (q16 : q ≤ 16) (h8 : gI σ 98 m = (z : Int)) (z64 : z ≤ 64) (hl : gI σ 80 1 = (q : Int) + (z : Int)) : ∃ τ, MM 413 [mR (some 80), mI (m : Int), mI 1] σ = some (some (mI 1), τ) ∧ τ.2 = σ.2 ∧ ∀ k s, gI τ k s = if k = 111 ∧ s < z then w8 (gI σ 81 (q + s)) else if k = 110 ∧ s < q then w8 (gI σ 81 s) else if k = 80 ∧ s = 1 then 0 else gI σ k s := by
  have e7 : gI (sI σ 80 1 0) 97 m = (q : Int) := by rw [gI_sI, if_neg (by omega)]; exact h7
  have e8 : gI (sI σ 80 1 0) 98 m = (z : Int) := by rw [gI_sI, if_neg (by omega)]; exact h8
  obtain ⟨τ, t1, t2, t3⟩ := L413a (x2 := 1) (x3 := gI σ 80 1) hm q16 q 0 (sI σ 80 1 0) (by omega) e7
  obtain ⟨ρ, r1, r2, r3⟩ := L413b (x3 := gI σ 80 1) hm (by omega : q ≤ 100) z64 z 0 τ (by omega) (by rw [t3, if_neg (by omega)]; exact e7) (by rw [t3, if_neg (by omega)]; exact e8)
  refine ⟨ρ, ?_, r2.trans t2, fun k s => ?_⟩
  · rw [M413, e413_0, T330]
    simp only [Option.bind_some, Option.toList_some, Option.toList_none, List.cons_append, List.nil_append]
    rw [e413_4, T407y (EO_g C fun k m _ => by rw [gI_sI, if_neg (by omega)]) hm h]
    simp only [Option.bind_some, Option.toList_some, Option.toList_none, List.cons_append, List.nil_append]
    rw [e413_10, if_neg n10, if_pos (by rw [g_97]; omega), if_neg (by decide), if_pos (by rw [g_98]; omega), Int.toNat_natCast, e7, e8, e413_34, w32_i (by omega) (by omega), if_pos hl]
    have t1 : RR (lkB tb413) (B413_43, [some (mR (some 80)), some (mI (m : Int)), some (mI 1), some (mI (gI σ 80 1)), some (mI 0)], [], sI σ 80 1 0) = _ := t1
    rw [t1]
    exact r1
  · rw [r3, t3 81, if_neg (show ¬ (81 = 110 ∧ 0 ≤ q + s ∧ q + s < q) by omega), gI_sI, if_neg (show ¬ (81 = 80 ∧ q + s = 1) by omega)]
    by_cases y : k = 111 ∧ s < z
    · rw [if_pos y, if_pos (by omega)]
    · rw [if_neg y, if_neg (by omega), t3, gI_sI, if_neg (show ¬ (81 = 80 ∧ s = 1) by omega), gI_sI]
      by_cases y2 : k = 110 ∧ s < q
      · rw [if_pos y2, if_pos (by omega)]
      · rw [if_neg y2, if_neg (by omega)]
/-! put -/
theorem T414k (C : EO σ E) (h : noK E x) : MM 414 [mR (some 80), mI x, mI f] σ = some (some (mI (-1)), sI σ 80 1 0) := by
  rw [M414, e414_0, T413k C h]
  simp only [Option.bind_some, Option.toList_some, Option.toList_none, List.cons_append, List.nil_append]
  rw [e414_6, if_pos rfl]
theorem T414l (C : EO σ E) (hm : m < 8) (h : 0 ≤ E.1 m ∧ E.1 m ≤ 1) (h7 : gI σ 97 m = (q : Int)) (q16 : q ≤ 16) (h8 : gI σ 98 m = (z : Int)) (z64 : z ≤ 64) (hl : ¬ gI σ 80 1 = (q : Int) + (z : Int)) : MM 414 [mR (some 80), mI (m : Int), mI f] σ = some (some (mI (-1)), sI σ 80 1 0) := by
  rw [M414, e414_0, T413l1 C hm h h7 q16 h8 z64 hl]
  simp only [Option.bind_some, Option.toList_some, Option.toList_none, List.cons_append, List.nil_append]
  rw [e414_6, if_pos rfl]
theorem ky_D (K p n : Nat) (i : Nat) (hi : i < n) : ((tpW σ K p n).map kpW).getD i 0 = w8 (gI σ K (p + i)) := by
  unfold tpW
  rw [List.map_map, List.getD_eq_getElem?_getD, List.getElem?_map, List.getElem?_range' (by omega)]
  show kpW (byW (gI σ K (p + 1 * i))) = _
  rw [Nat.one_mul, ← w8_kp]
theorem ky_l (K p n : Nat) : ((tpW σ K p n).map kpW).length = n := by
  unfold tpW
  rw [List.length_map, List.length_map, List.length_range']
theorem w8_8 (y : Int) : w8 (w8 y) = w8 y := by
  have b := w8_in y
  exact w8_i b.1 b.2
theorem T414 (C : EO σ E) (hm : m < 8) (h : 0 ≤ E.1 m ∧ E.1 m ≤ 1) (wl : wldR σ W) (hI : invW W) (h7 : wg W 97 m = (q : Int)) (h8 : wg W 98 m = (z : Int)) (hl : gI σ 80 1 = (q : Int) + (z : Int)) (hf : -2147483648 ≤ f ∧ f < 2147483648) : ∃ τ, MM 414 [mR (some 80), mI (m : Int), mI f] σ = some (some (mI (updR W m ((tpW σ 81 0 q).map kpW) ((tpW σ 81 q z).map kpW) f).2), τ) ∧ wldR τ (updR W m ((tpW σ 81 0 q).map kpW) ((tpW σ 81 q z).map kpW) f).1 ∧ τ.2 = σ.2 ∧ gI τ 80 1 = 0 ∧ ∀ k s, ¬ (100 ≤ k ∧ k ≤ 104) → ¬ (k = 110 ∨ k = 111) → ¬ (k = 80 ∧ s = 1) → gI τ k s = gI σ k s := by
  have i1 := hI.1 m hm
  have g7 : gI σ 97 m = (q : Int) := (wld_g wl (by omega)).trans h7
  have g8 : gI σ 98 m = (z : Int) := (wld_g wl (by omega)).trans h8
  obtain ⟨τ, t1, t2, t3⟩ := T413_1 C hm h g7 (by omega) g8 (by omega) hl
  have wτ : wldR τ W := wld_q wl (fun k s p => by rw [t3, if_neg (by omega), if_neg (by omega), if_neg (by omega)]) (by unfold gL; rw [t2]) (by unfold gL; rw [t2])
  have hk : ∀ i, i < ((tpW σ 81 0 q).map kpW).length → gI τ 110 i = ((tpW σ 81 0 q).map kpW).getD i 0 := fun i hi => by
    rw [ky_l] at hi
    rw [ky_D _ _ _ _ hi, t3, if_neg (by omega), if_pos ⟨rfl, hi⟩, Nat.zero_add]
  have hv : ∀ i, i < ((tpW σ 81 q z).map kpW).length → gI τ 111 i = ((tpW σ 81 q z).map kpW).getD i 0 := fun i hi => by
    rw [ky_l] at hi
    rw [ky_D _ _ _ _ hi, t3, if_pos ⟨rfl, hi⟩]
  have k8 : ∀ (p n i : Nat), i < ((tpW σ 81 p n).map kpW).length → w8 (((tpW σ 81 p n).map kpW).getD i 0) = ((tpW σ 81 p n).map kpW).getD i 0 := fun p n i hi => by
    rw [ky_l] at hi
    rw [ky_D _ _ _ _ hi, w8_8]
  have ff : (iL f).toInt = f := iLt (by omega) (by omega)
  have u := up_W (x := iL f) wτ hm hI (by rw [ky_l, h7]; rfl) hk (k8 0 q) (by rw [ky_l, h8]; rfl) hv (k8 q z)
  rw [ff] at u
  have fn : fnS τ m < 32 := by
    rw [fn_W wτ hm hI (key := (tpW σ 81 0 q).map kpW) (fun i hi => hk i (by rw [ky_l]; omega))]
    cases qf : finR W m ((tpW σ 81 0 q).map kpW) with
    | none => exact (by decide : (-1 : Int) < 32)
    | some j =>
      have := fin_32 hm hI qf
      show (j : Int) < 32
      omega
  have e97 := wld_g wτ (k := 97) (s := m) (by omega)
  have e98 := wld_g wτ (k := 98) (s := m) (by omega)
  have e99 := wld_g wτ (k := 99) (s := m) (by omega)
  have e101 := wld_g wτ (k := 101) (s := m) (by omega)
  have t411 := T411 (σ := τ) (x := iL f) hm (by omega) (by omega) (by omega) (by omega) fn
  refine ⟨(upM τ m (iL f)).1, ?_, u.1, by rw [upM_2, t2], by rw [upM_o (by omega), t3, if_neg (by omega), if_neg (by omega), if_pos ⟨rfl, rfl⟩], fun k s p1 p2 p3 => ?_⟩
  · rw [M414, e414_0, t1]
    simp only [Option.bind_some, Option.toList_some, Option.toList_none, List.cons_append, List.nil_append]
    rw [e414_6, if_neg n10, t411]
    simp only [Option.bind_some, Option.toList_some, Option.toList_none, List.cons_append, List.nil_append]
    rw [e414_16, u.2]
  · rw [upM_o p1, t3, if_neg (by omega), if_neg (by omega), if_neg p3]
/-! bytes of a cell come to the OUT -/
theorem L416 (hm : m < 8) (hc : c < 32) (z64 : z ≤ 64) (hB : ∀ s, -128 ≤ gI ρ 100 s ∧ gI ρ 100 s < 128) : ∀ (f j : Nat) (σ : MS) (L : List Int), j + f = z → gI σ 98 m = (z : Int) → (∀ s, gI σ 100 s = gI ρ 100 s) → otR σ L → L.length + f ≤ 24000 → okc (RR (lkB tb416) (B416_2, [some (mR (some 80)), some (mI (m : Int)), some (mI (c : Int)), some (mI (j : Int))], [], σ)) none (etR σ L (blko ρ 100 ((32 * m + c) * 64 + j) f)) := by
  intro f
  induction f with
  | zero =>
    intro j σ L hj h8 _ h _
    rw [e416_2, if_pos (by rw [g_98]; omega), Int.toNat_natCast, h8, if_pos (by omega)]
    exact okc_s (etR_0 h)
  | succ f ih =>
    intro j σ L hj h8 h100 h hl
    have e1 : w32 ((j : Int) + 1) = ((j + 1 : Nat) : Int) := by
      rw [w32_i (by omega) (by omega)]
      omega
    have b : blko ρ 100 ((32 * m + c) * 64 + j) (f + 1) = [gI ρ 100 ((32 * m + c) * 64 + j)] ++ blko ρ 100 ((32 * m + c) * 64 + (j + 1)) f := blo_a
    have b100 : 0 ≤ (((32 * m + c) * 64 + j : Nat) : Int) ∧ (((32 * m + c) * 64 + j : Nat) : Int) < 16384 := by omega
    have hl2 : (L ++ [gI ρ 100 ((32 * m + c) * 64 + j)]).length ≤ 24000 := by
      rw [List.length_append, List.length_singleton]
      omega
    rw [e416_2, if_pos (by rw [g_98]; omega), Int.toNat_natCast, h8, if_neg (by omega), wa_64 hm (by omega) (by omega), if_pos (by rw [g_100]; exact b100), Int.toNat_natCast, h100, b]
    refine okc_b (T390 h hl2 (hB _)) fun τ y => ?_
    simp only [Option.bind_some, Option.toList_some, Option.toList_none, List.cons_append, List.nil_append]
    rw [e416_32, e1]
    exact okc_m (ih (j + 1) τ _ (by omega) ((y.2.1 98 m (by omega)).trans h8) (fun s => (y.2.1 100 s (by omega)).trans (h100 s)) y.1 (by rw [List.length_append, List.length_singleton]; omega)) fun υ w => etR_t y w
theorem T416 (hm : m < 8) (hc : c < 32) (z64 : z ≤ 64) (hB : ∀ s, -128 ≤ gI σ 100 s ∧ gI σ 100 s < 128) (h8 : gI σ 98 m = (z : Int)) (h : otR σ L) (hl : L.length + z ≤ 24000) : okc (MM 416 [mR (some 80), mI (m : Int), mI (c : Int)] σ) none (etR σ L (blko σ 100 ((32 * m + c) * 64) z)) := by
  rw [M416, e416_0]
  exact L416 hm hc z64 hB z 0 σ L (by omega) h8 (fun _ => rfl) h hl
theorem blo_n : (blko σ K p n).length = n := by
  unfold blko
  rw [List.length_map, List.length_range]
/-! get -/
theorem T415k (C : EO σ E) (h : noK E x) : MM 415 [mR (some 80), mI x] σ = some (some (mI (-1)), sI σ 80 1 0) := by
  rw [M415, e415_0, T413k C h]
  simp only [Option.bind_some, Option.toList_some, Option.toList_none, List.cons_append, List.nil_append]
  rw [e415_6, if_neg (fun z => z rfl)]
theorem T415l (C : EO σ E) (hm : m < 8) (h : 0 ≤ E.1 m ∧ E.1 m ≤ 1) (h7 : gI σ 97 m = (q : Int)) (q16 : q ≤ 16) (hl : ¬ gI σ 80 1 = (q : Int)) : MM 415 [mR (some 80), mI (m : Int)] σ = some (some (mI (-1)), sI σ 80 1 0) := by
  rw [M415, e415_0, T413l0 C hm h h7 q16 hl]
  simp only [Option.bind_some, Option.toList_some, Option.toList_none, List.cons_append, List.nil_append]
  rw [e415_6, if_neg (fun z => z rfl)]
/-- the reference's corner of keys and values -/
def kyq (σ τ : MS) : Prop := (∀ k s, ¬ (k = 110 ∨ k = 111) → ¬ (k = 80 ∧ s = 1) → gI τ k s = gI σ k s) ∧ τ.2 = σ.2 ∧ gI τ 80 1 = 0
theorem T415a (C : EO σ E) (hm : m < 8) (h : 0 ≤ E.1 m ∧ E.1 m ≤ 1) (wl : wldR σ W) (hI : invW W) (h7 : wg W 97 m = (q : Int)) (hl : gI σ 80 1 = (q : Int)) : ∃ τ, MM 413 [mR (some 80), mI (m : Int), mI 0] σ = some (some (mI 1), τ) ∧ kyq σ τ ∧ wldR τ W ∧ (∀ i, i < (wg W 97 m).toNat → gI τ 110 i = ((tpW σ 81 0 q).map kpW).getD i 0) := by
  have i1 := hI.1 m hm
  have g7 : gI σ 97 m = (q : Int) := (wld_g wl (by omega)).trans h7
  obtain ⟨τ, t1, t2, t3⟩ := T413_0 C hm h g7 (by omega) hl
  refine ⟨τ, t1, ⟨fun k s p1 p2 => by rw [t3, if_neg (by omega), if_neg p2], t2, by rw [t3, if_neg (by omega), if_pos ⟨rfl, rfl⟩]⟩, wld_q wl (fun k s p => by rw [t3, if_neg (by omega), if_neg (by omega)]) (by unfold gL; rw [t2]) (by unfold gL; rw [t2]), fun i hi => ?_⟩
  have hi : i < q := by omega
  rw [ky_D _ _ _ _ hi, t3, if_pos ⟨rfl, hi⟩, Nat.zero_add]
theorem T410W (wτ : wldR τ W) (hm : m < 8) (hI : invW W) (hk : ∀ i, i < (wg W 97 m).toNat → gI τ 110 i = key.getD i 0) : MM 410 [mR (some 80), mI (m : Int)] τ = some (some (mI (ioN (finR W m key))), τ) := by
  have i1 := hI.1 m hm
  have e97 := wld_g wτ (k := 97) (s := m) (by omega)
  have e99 := wld_g wτ (k := 99) (s := m) (by omega)
  have e101 := wld_g wτ (k := 101) (s := m) (by omega)
  rw [T410 hm (by omega) (by omega) (by omega), fn_W wτ hm hI hk]
theorem T415o (C : EO σ E) (hm : m < 8) (h : 0 ≤ E.1 m ∧ E.1 m ≤ 1) (wl : wldR σ W) (hI : invW W) (h7 : wg W 97 m = (q : Int)) (hl : gI σ 80 1 = (q : Int)) (hn : finR W m ((tpW σ 81 0 q).map kpW) = none) : ∃ τ, MM 415 [mR (some 80), mI (m : Int)] σ = some (some (mI (-2)), τ) ∧ kyq σ τ := by
  obtain ⟨τ, t1, t2, t3, t4⟩ := T415a C hm h wl hI h7 hl
  have t := T410W t3 hm hI t4
  rw [hn] at t
  have t : MM 410 [mR (some 80), mI (m : Int)] τ = some (some (mI (-1)), τ) := t
  refine ⟨τ, ?_, t2⟩
  rw [M415, e415_0, t1]
  simp only [Option.bind_some, Option.toList_some, Option.toList_none, List.cons_append, List.nil_append]
  rw [e415_6, if_pos n10, t]
  simp only [Option.bind_some, Option.toList_some, Option.toList_none, List.cons_append, List.nil_append]
  rw [e415_16, if_neg (by decide)]
theorem T415 (C : EO σ E) (hm : m < 8) (h : 0 ≤ E.1 m ∧ E.1 m ≤ 1) (wl : wldR σ W) (hI : invW W) (hb : bOk σ) (h7 : wg W 97 m = (q : Int)) (h8 : wg W 98 m = (z : Int)) (hl : gI σ 80 1 = (q : Int)) (hn : finR W m ((tpW σ 81 0 q).map kpW) = some c) : okc (MM 415 [mR (some 80), mI (m : Int)] σ) (some (mI (z : Int))) (fun τ => otR τ (blko σ 100 ((32 * m + c) * 64) z) ∧ ∃ υ, kyq σ υ ∧ qR υ τ) := by
  have i1 := hI.1 m hm
  obtain ⟨τ, t1, t2, t3, t4⟩ := T415a C hm h wl hI h7 hl
  have c32 := fin_32 hm hI hn
  have t := T410W t3 hm hI t4
  rw [hn] at t
  have t : MM 410 [mR (some 80), mI (m : Int)] τ = some (some (mI (c : Int)), τ) := t
  have g8 : gI τ 98 m = (z : Int) := (wld_g t3 (by omega)).trans h8
  have e100 : ∀ s, gI τ 100 s = gI σ 100 s := fun s => t2.1 100 s (by omega) (by omega)
  have be : blko (sI τ 80 3 0) 100 ((32 * m + c) * 64) z = blko σ 100 ((32 * m + c) * 64) z := List.map_congr_left fun i _ => by
    rw [gI_sI, if_neg (by omega)]
    exact e100 _
  rw [M415, e415_0, t1]
  simp only [Option.bind_some, Option.toList_some, Option.toList_none, List.cons_append, List.nil_append]
  rw [e415_6, if_pos n10, t]
  simp only [Option.bind_some, Option.toList_some, Option.toList_none, List.cons_append, List.nil_append]
  rw [e415_16, if_pos (by omega)]
  refine okc_b (T416 (z := z) hm c32 (by omega) (fun s => by rw [gI_sI, if_neg (by omega), e100]; exact hb 100 s (by rw [kc_100])) (by rw [gI_sI, if_neg (by omega)]; exact g8) otR_z (by show 0 + z ≤ 24000; omega)) fun υ y => ?_
  simp only [Option.bind_some, Option.toList_some, Option.toList_none, List.cons_append, List.nil_append]
  rw [be] at y
  have y1 : otR υ (blko σ 100 ((32 * m + c) * 64) z) := y.1
  rw [e415_35, y1.1, blo_n]
  exact okc_s ⟨y1, τ, t2, qR_t qR_z y.2⟩
/-! remove -/
theorem T417k (C : EO σ E) (h : noK E x) : MM 417 [mR (some 80), mI x] σ = some (some (mI (-1)), sI σ 80 1 0) := by
  rw [M417, e417_0, T413k C h]
  simp only [Option.bind_some, Option.toList_some, Option.toList_none, List.cons_append, List.nil_append]
  rw [e417_6, if_pos rfl]
theorem T417l (C : EO σ E) (hm : m < 8) (h : 0 ≤ E.1 m ∧ E.1 m ≤ 1) (h7 : gI σ 97 m = (q : Int)) (q16 : q ≤ 16) (hl : ¬ gI σ 80 1 = (q : Int)) : MM 417 [mR (some 80), mI (m : Int)] σ = some (some (mI (-1)), sI σ 80 1 0) := by
  rw [M417, e417_0, T413l0 C hm h h7 q16 hl]
  simp only [Option.bind_some, Option.toList_some, Option.toList_none, List.cons_append, List.nil_append]
  rw [e417_6, if_pos rfl]
theorem rem_W0 (h : wldR σ W) (hm : m < 8) (hI : invW W) (hk : ∀ i, i < (wg W 97 m).toNat → gI σ 110 i = key.getD i 0) (h54 : gI σ 80 54 = 0) : ∃ τ, MM 412 [mR (some 80), mI (m : Int)] σ = some (some (mI (remR W m key 0).2), τ) ∧ wldR τ (remR W m key 0).1 ∧ τ.2 = σ.2 ∧ ∀ k s, ¬ (101 ≤ k ∧ k ≤ 105) → gI τ k s = gI σ k s := by
  have i1 := hI.1 m hm
  have u7 := wld_g h (k := 97) (s := m) (by omega)
  have u1 := wld_g h (k := 101) (s := m) (by omega)
  have u6 := wld_g h (k := 96) (s := m) (by omega)
  obtain ⟨τ, t1, t2, t3⟩ := T412 (σ := σ) hm (by omega) (by omega) (fun e he => by
    rw [wld_g h (k := 103) (by omega)]
    exact hI.2.1 m e hm (by omega))
  have et := et_W h hm hI hk
  rw [u6, et] at t1
  rw [u6] at t2
  rw [u6, et] at t3
  refine ⟨τ, ?_, ?_⟩
  · rw [t1]
    unfold remR
    by_cases k0 : wg W 96 m = 0
    · rw [if_pos k0, if_pos k0]
    · rw [if_neg k0, if_neg k0]
      cases entR W m key with
      | none => rfl
      | some e => rfl
  · unfold remR
    by_cases k0 : wg W 96 m = 0
    · rw [if_pos k0]
      rw [t2 k0]
      exact ⟨h, rfl, fun _ _ _ => rfl⟩
    · rw [if_neg k0]
      have t3 := t3 k0
      cases q : entR W m key with
      | none =>
        rw [q] at t3
        have t3 : τ = σ := t3
        rw [t3]
        exact ⟨h, rfl, fun _ _ _ => rfl⟩
      | some e =>
        rw [q] at t3
        obtain ⟨p2, p1⟩ : τ.2 = σ.2 ∧ ∀ k s, gI τ k s = if k = 102 ∧ 256 * m + 16 * e ≤ s ∧ s < 256 * m + 16 * (gI σ 101 m - 1).toNat then w8 (gI σ 102 (s + 16)) else if k = 103 ∧ 16 * m + e ≤ s ∧ s < 16 * m + (gI σ 101 m - 1).toNat then gI σ 103 (s + 1) else gI (rm1 σ m e) k s := t3
        have u3 := wld_g h (k := 103) (s := 16 * m + e) (by omega)
        have er : rm1 σ m e = sI (sI (sI σ 104 (32 * m + (wg W 103 (16 * m + e)).toNat) 0) 105 (32 * m + (wg W 103 (16 * m + e)).toNat) 0) 101 m (wg W 101 m - 1) := by
          unfold rm1
          rw [u3, u1, h54]
          rfl
        have wr : wldR (rm1 σ m e) (wset (wset (wset W 104 (32 * m + (wg W 103 (16 * m + e)).toNat) 0) 105 (32 * m + (wg W 103 (16 * m + e)).toNat) 0) 101 m (wg W 101 m - 1)) := by
          rw [er]
          exact wld_I (wld_I (wld_I h))
        refine ⟨⟨fun k s p => ?_, ?_, ?_⟩, p2, fun k s z => ?_⟩
        · rw [p1, u1]
          show (if k = 102 ∧ 256 * m + 16 * e ≤ s ∧ s < 256 * m + 16 * (wg W 101 m - 1).toNat then (if 102 = 103 ∧ 16 * m + e ≤ s + 16 ∧ s + 16 < 16 * m + (wg W 101 m - 1).toNat then wg (wset (wset (wset W 104 (32 * m + (wg W 103 (16 * m + e)).toNat) 0) 105 (32 * m + (wg W 103 (16 * m + e)).toNat) 0) 101 m (wg W 101 m - 1)) 103 (s + 16 + 1) else wg (wset (wset (wset W 104 (32 * m + (wg W 103 (16 * m + e)).toNat) 0) 105 (32 * m + (wg W 103 (16 * m + e)).toNat) 0) 101 m (wg W 101 m - 1)) 102 (s + 16)) else (if k = 103 ∧ 16 * m + e ≤ s ∧ s < 16 * m + (wg W 101 m - 1).toNat then wg (wset (wset (wset W 104 (32 * m + (wg W 103 (16 * m + e)).toNat) 0) 105 (32 * m + (wg W 103 (16 * m + e)).toNat) 0) 101 m (wg W 101 m - 1)) 103 (s + 1) else wg (wset (wset (wset W 104 (32 * m + (wg W 103 (16 * m + e)).toNat) 0) 105 (32 * m + (wg W 103 (16 * m + e)).toNat) 0) 101 m (wg W 101 m - 1)) k s)) = _
          by_cases q1 : k = 102 ∧ 256 * m + 16 * e ≤ s ∧ s < 256 * m + 16 * (wg W 101 m - 1).toNat
          · rw [if_pos q1, if_pos q1, if_neg (by omega), wld_g h (k := 102) (by omega)]
            have := hI.2.2.1 102 (s + 16) (Or.inl rfl)
            rw [w8_i this.1 this.2, wg_wset_o (by decide), wg_wset_o (by decide), wg_wset_o (by decide)]
          · rw [if_neg q1, if_neg q1]
            by_cases q2 : k = 103 ∧ 16 * m + e ≤ s ∧ s < 16 * m + (wg W 101 m - 1).toNat
            · rw [if_pos q2, if_pos q2, wld_g h (k := 103) (by omega), wg_wset_o (by decide), wg_wset_o (by decide), wg_wset_o (by decide)]
            · rw [if_neg q2, if_neg q2]
              exact wr.1 k s p
        · show W.2.1 = gL τ 80 108
          rw [gL_2 p2]
          exact h.2.1
        · show W.2.2 = gL τ 80 111
          rw [gL_2 p2]
          exact h.2.2
        · rw [p1, if_neg (by omega), if_neg (by omega), er, gI_sI, if_neg (by omega), gI_sI, if_neg (by omega), gI_sI, if_neg (by omega)]
theorem T417 (C : EO σ E) (hm : m < 8) (h : 0 ≤ E.1 m ∧ E.1 m ≤ 1) (wl : wldR σ W) (hI : invW W) (h54 : gI σ 80 54 = 0) (h7 : wg W 97 m = (q : Int)) (hl : gI σ 80 1 = (q : Int)) : ∃ τ, MM 417 [mR (some 80), mI (m : Int)] σ = some (some (mI (remR W m ((tpW σ 81 0 q).map kpW) 0).2), τ) ∧ wldR τ (remR W m ((tpW σ 81 0 q).map kpW) 0).1 ∧ ∃ υ, kyq σ υ ∧ τ.2 = υ.2 ∧ ∀ k s, ¬ (101 ≤ k ∧ k ≤ 105) → gI τ k s = gI υ k s := by
  obtain ⟨υ, t1, t2, t3, t4⟩ := T415a C hm h wl hI h7 hl
  obtain ⟨τ, r1, r2, r3, r4⟩ := rem_W0 t3 hm hI t4 ((t2.1 80 54 (by omega) (by omega)).trans h54)
  refine ⟨τ, ?_, r2, υ, t2, r3, r4⟩
  rw [M417, e417_0, t1]
  simp only [Option.bind_some, Option.toList_some, Option.toList_none, List.cons_append, List.nil_append]
  rw [e417_6, if_neg n10, r1]
  simp only [Option.bind_some, Option.toList_some, Option.toList_none, List.cons_append, List.nil_append]
  rw [e417_14]
/-! entry -/
theorem T419k (C : EO σ E) (h : noM E 1 x) : MM 419 [mR (some 80), mI x, mI y] σ = some (some (mI (-1)), σ) := by
  rw [M419, e419_0, T418k C h]
  simp only [Option.bind_some, Option.toList_some, Option.toList_none, List.cons_append, List.nil_append]
  rw [e419_6, if_pos rfl]
theorem T419l (C : EO σ E) (hm : m < 8) (h : E.1 m = 1) (hy : y < 0 ∨ gI σ 101 m ≤ y) : MM 419 [mR (some 80), mI (m : Int), mI y] σ = some (some (mI (-1)), σ) := by
  rw [M419, e419_0, T418y C hm h (by decide)]
  simp only [Option.bind_some, Option.toList_some, Option.toList_none, List.cons_append, List.nil_append]
  rw [e419_6, if_neg n10]
  by_cases c : y < 0
  · rw [if_pos c]
  · rw [if_neg c, if_pos (by rw [g_101]; omega), Int.toNat_natCast, if_neg (by omega)]
theorem L419 (hm : m < 8) (hi : i < 16) (hc : gI ρ 103 (16 * m + i) = (c : Int)) (c32 : c < 32) (q16 : q ≤ 16) (z64 : z ≤ 64) (hb : bOk ρ) (h7 : gI ρ 97 m = (q : Int)) (h8 : gI ρ 98 m = (z : Int)) : ∀ (f j : Nat) (σ : MS) (L : List Int), j + f = q → (∀ k s, 95 ≤ k ∧ k ≤ 109 → gI σ k s = gI ρ k s) → otR σ L → L.length + f + z ≤ 24000 → okc (RR (lkB tb419) (B419_32, [some (mR (some 80)), some (mI (m : Int)), some (mI (i : Int)), some (mI (j : Int))], [], σ)) (some (mI ((L.length + f + z : Nat) : Int))) (etR σ L (blko ρ 102 (256 * m + 16 * i + j) f ++ blko ρ 100 ((32 * m + c) * 64) z)) := by
  intro f
  induction f with
  | zero =>
    intro j σ L hj hρ h hl
    have b103 : 0 ≤ ((16 * m + i : Nat) : Int) ∧ ((16 * m + i : Nat) : Int) < 128 := by omega
    have be : blko σ 100 ((32 * m + c) * 64) z = blko ρ 100 ((32 * m + c) * 64) z := List.map_congr_left fun i _ => hρ 100 _ (by omega)
    rw [e419_32, if_pos (by rw [g_97]; omega), Int.toNat_natCast, hρ 97 m (by omega), h7, if_pos (by omega), wa_16 hm (by omega), if_pos (by rw [g_103]; exact b103), Int.toNat_natCast, hρ 103 _ (by omega), hc]
    refine okc_b (T416 (z := z) hm c32 z64 (fun s => by rw [hρ 100 s (by omega)]; exact hb 100 s (by rw [kc_100])) ((hρ 98 m (by omega)).trans h8) h (by omega)) fun τ y => ?_
    simp only [Option.bind_some, Option.toList_some, Option.toList_none, List.cons_append, List.nil_append]
    rw [be] at y
    have b0 : blko ρ 102 (256 * m + 16 * i + j) 0 = [] := rfl
    rw [e419_85, y.1.1, List.length_append, blo_n, b0, List.nil_append]
    exact okc_s y
  | succ f ih =>
    intro j σ L hj hρ h hl
    have b : blko ρ 102 (256 * m + 16 * i + j) (f + 1) = [gI ρ 102 (256 * m + 16 * i + j)] ++ blko ρ 102 (256 * m + 16 * i + (j + 1)) f := blo_a
    have b102 : 0 ≤ ((256 * m + 16 * i + j : Nat) : Int) ∧ ((256 * m + 16 * i + j : Nat) : Int) < 2048 := by omega
    have hl2 : (L ++ [gI ρ 102 (256 * m + 16 * i + j)]).length ≤ 24000 := by
      rw [List.length_append, List.length_singleton]
      omega
    have lf : L.length + (f + 1) + z = (L ++ [gI ρ 102 (256 * m + 16 * i + j)]).length + f + z := by
      rw [List.length_append, List.length_singleton]
      omega
    have nq : ¬ (q : Int) ≤ (j : Int) := by omega
    have j200 : j < 200 := by omega
    have i200 : i < 200 := by omega
    have m8 : 0 ≤ (m : Int) ∧ (m : Int) < 8 := by omega
    have l3 : (L ++ [gI ρ 102 (256 * m + 16 * i + j)]).length + f + z ≤ 24000 := by
      rw [List.length_append, List.length_singleton]
      omega
    have f1 : j + 1 + f = q := by omega
    have e1 : w32 ((j : Int) + 1) = ((j + 1 : Nat) : Int) := by
      rw [w32_i (by omega) (by omega)]
      omega
    rw [e419_32, if_pos (by rw [g_97]; exact m8), Int.toNat_natCast, hρ 97 m (by omega), h7, if_neg nq, wa_256 hm i200 j200, if_pos (by rw [g_102]; exact b102), Int.toNat_natCast, hρ 102 _ (by omega), b]
    refine okc_b (T390 h hl2 (hb 102 _ (by rw [kc_102]))) fun τ y => ?_
    simp only [Option.bind_some, Option.toList_some, Option.toList_none, List.cons_append, List.nil_append]
    rw [e419_63, e1, lf]
    exact okc_m (ih (j + 1) τ _ f1 (fun k s hk => (y.2.1 k s (by omega)).trans (hρ k s hk)) y.1 l3) fun υ w => etR_t y w
theorem T419 (C : EO σ E) (hm : m < 8) (h : E.1 m = 1) (hi : (i : Int) < gI σ 101 m) (h101 : gI σ 101 m ≤ 16) (hc : gI σ 103 (16 * m + i) = (c : Int)) (c32 : c < 32) (h7 : gI σ 97 m = (q : Int)) (q16 : q ≤ 16) (h8 : gI σ 98 m = (z : Int)) (z64 : z ≤ 64) (hb : bOk σ) : okc (MM 419 [mR (some 80), mI (m : Int), mI (i : Int)] σ) (some (mI ((q + z : Nat) : Int))) (fun τ => otR τ (blko σ 102 (256 * m + 16 * i) q ++ blko σ 100 ((32 * m + c) * 64) z) ∧ qR σ τ) := by
  have l := L419 (i := i) (z := z) hm (by omega) hc c32 q16 z64 hb h7 h8 q 0 (sI σ 80 3 0) [] (by omega) (fun k s hk => by rw [gI_sI, if_neg (by omega)]) otR_z (by show 0 + q + z ≤ 24000; omega)
  have l0 : ([] : List Int).length + q + z = q + z := by
    show 0 + q + z = q + z
    omega
  rw [l0] at l
  rw [M419, e419_0, T418y C hm h (by decide)]
  simp only [Option.bind_some, Option.toList_some, Option.toList_none, List.cons_append, List.nil_append]
  rw [e419_6, if_neg n10, if_neg (by omega), if_pos (by rw [g_101]; omega), Int.toNat_natCast, if_pos hi]
  exact okc_m l fun τ y => ⟨y.1, qR_t qR_z y.2⟩
/-! size -/
/-- indices that have a slot -/
def cnI (σ : MS) (m : Nat) : Nat → Int
  | 0 => 0
  | n + 1 => cnI σ m n + (if gI σ 106 (16 * m + n) < 0 then 0 else 1)
theorem cnI_b (n : Nat) : 0 ≤ cnI σ m n ∧ cnI σ m n ≤ n := by
  induction n with
  | zero => exact ⟨Int.le_refl _, Int.le_refl _⟩
  | succ n ih =>
    have e : cnI σ m (n + 1) = cnI σ m n + (if gI σ 106 (16 * m + n) < 0 then 0 else 1) := rfl
    rw [e]
    split <;> omega
theorem L420 {v : Option MV} {P : MS → Prop} (hm : m < 8) (K : okc (RR (lkB tb420) (B420_22, [some (mR (some 80)), some (mI (m : Int)), some (mI (cnI σ m 16)), some (mI 16)], [], σ)) v P) : ∀ (f j : Nat), j + f = 16 → okc (RR (lkB tb420) (B420_22, [some (mR (some 80)), some (mI (m : Int)), some (mI (cnI σ m j)), some (mI (j : Int))], [], σ)) v P := by
  intro f
  induction f with
  | zero =>
    intro j hj
    have : j = 16 := by omega
    subst this
    exact K
  | succ f ih =>
    intro j hj
    have e1 : w32 ((j : Int) + 1) = ((j + 1 : Nat) : Int) := by
      rw [w32_i (by omega) (by omega)]
      omega
    have b := cnI_b (σ := σ) (m := m) j
    have b106 : 0 ≤ ((16 * m + j : Nat) : Int) ∧ ((16 * m + j : Nat) : Int) < 128 := by omega
    have ih := ih (j + 1) (by omega)
    have ec : cnI σ m (j + 1) = cnI σ m j + (if gI σ 106 (16 * m + j) < 0 then 0 else 1) := rfl
    rw [e420_22, if_neg (by omega), wa_16 hm (by omega), if_pos (by rw [g_106]; exact b106), Int.toNat_natCast]
    by_cases c : gI σ 106 (16 * m + j) < 0
    · rw [if_pos c] at ec ⊢
      rw [e420_48, e1, w32_i (by omega) (by omega), ← ec]
      exact ih
    · rw [if_neg c] at ec ⊢
      rw [e420_48, e1, w32_i (by omega) (by omega), ← ec]
      exact ih
theorem T420n (C : EO σ E) (h : (x < 0 ∨ 8 ≤ x) ∨ E.1 x.toNat < 0) : MM 420 [mR (some 80), mI x] σ = some (some (mI (-1)), σ) := by
  by_cases c : x < 0 ∨ 8 ≤ x
  · rw [M420, e420_0, T331n c]
    simp only [Option.bind_some, Option.toList_some, Option.toList_none, List.cons_append, List.nil_append]
    rw [e420_4, if_pos rfl]
  · have h2 := h.resolve_left c
    obtain ⟨m, rfl⟩ : ∃ m : Nat, x = (m : Int) := ⟨x.toNat, by omega⟩
    rw [Int.toNat_natCast] at h2
    have hm : m < 8 := by omega
    obtain ⟨_, _, c3, c4⟩ := C m hm
    have z : gI σ 95 m = 0 := Decidable.byContradiction fun z => by
      have := (c4 z).2
      omega
    rw [M420, e420_0, T331 hm]
    simp only [Option.bind_some, Option.toList_some, Option.toList_none, List.cons_append, List.nil_append]
    rw [e420_4, if_neg n10, if_pos (by rw [g_95]; omega), Int.toNat_natCast, if_neg (fun y => y z)]
theorem T420 (C : EO σ E) (hm : m < 8) (h : 0 ≤ E.1 m) : MM 420 [mR (some 80), mI (m : Int)] σ = some (some (mI (if E.1 m = 0 then gI σ 99 m else if E.1 m = 1 then gI σ 101 m else if E.1 m = 2 then cnI σ m 16 else gI σ 107 m)), σ) := by
  obtain ⟨_, _, c3, c4⟩ := C m hm
  have z : ¬ gI σ 95 m = 0 := fun z => by
    have := c3 z
    omega
  have d := (c4 z).1
  have b8 : 0 ≤ (m : Int) ∧ (m : Int) < 8 := by omega
  have K : okc (RR (lkB tb420) (B420_22, [some (mR (some 80)), some (mI (m : Int)), some (mI (cnI σ m 16)), some (mI 16)], [], σ)) (some (mI (if E.1 m = 0 then gI σ 99 m else if E.1 m = 1 then gI σ 101 m else if E.1 m = 2 then cnI σ m 16 else gI σ 107 m))) (fun τ => τ = σ) := by
    rw [e420_22, if_pos (by decide), if_pos (by rw [g_96]; exact b8), Int.toNat_natCast, ← d]
    by_cases k0 : E.1 m = 0
    · rw [if_neg (fun y => y k0), if_pos k0, if_pos (by rw [g_99]; exact b8)]
      exact okc_s rfl
    · rw [if_pos k0, if_neg k0, if_pos (by rw [g_96]; exact b8)]
      by_cases k1 : E.1 m = 1
      · rw [if_neg (fun y => y k1), if_pos k1, if_pos (by rw [g_101]; exact b8)]
        exact okc_s rfl
      · rw [if_pos k1, if_neg k1, if_pos (by rw [g_96]; exact b8)]
        by_cases k2 : E.1 m = 2
        · rw [if_neg (fun y => y k2), if_pos k2]
          exact okc_s rfl
        · rw [if_pos k2, if_neg k2, if_pos (by rw [g_107]; exact b8)]
          exact okc_s rfl
  obtain ⟨τ, t1, t2⟩ := L420 hm K 16 0 rfl
  have t1 : RR (lkB tb420) (B420_22, [some (mR (some 80)), some (mI (m : Int)), some (mI 0), some (mI 0)], [], σ) = _ := t1
  rw [M420, e420_0, T331 hm]
  simp only [Option.bind_some, Option.toList_some, Option.toList_none, List.cons_append, List.nil_append]
  rw [e420_4, if_neg n10, if_pos (by rw [g_95]; exact b8), Int.toNat_natCast, if_pos z, t1, t2]
/-! link -/
theorem T421k (C : EO σ E) (h : noM E 2 x) : MM 421 [mR (some 80), mI x, mI y, mI f] σ = some (some (mI 0), σ) := by
  rw [M421, e421_0, T418k C h]
  simp only [Option.bind_some, Option.toList_some, Option.toList_none, List.cons_append, List.nil_append]
  rw [e421_6, if_pos rfl]
theorem T421l (C : EO σ E) (hm : m < 8) (h : E.1 m = 2) (hy : (y < 0 ∨ gI σ 99 m ≤ y) ∨ (f < -1 ∨ 8 ≤ f)) : MM 421 [mR (some 80), mI (m : Int), mI y, mI f] σ = some (some (mI 0), σ) := by
  rw [M421, e421_0, T418y C hm h (by decide)]
  simp only [Option.bind_some, Option.toList_some, Option.toList_none, List.cons_append, List.nil_append]
  rw [e421_6, if_neg n10]
  by_cases c : y < 0
  · rw [if_pos c]
  · rw [if_neg c, if_pos (by rw [g_99]; omega), Int.toNat_natCast]
    by_cases d : gI σ 99 m ≤ y
    · rw [if_pos d]
    · rw [if_neg d]
      by_cases d2 : f < -1
      · rw [if_pos d2]
      · rw [if_neg d2, if_neg (by omega)]
theorem T421 (C : EO σ E) (hm : m < 8) (h : E.1 m = 2) (hi : (i : Int) < gI σ 99 m) (h99 : gI σ 99 m ≤ 16) (hf : -1 ≤ f ∧ f < 8) : MM 421 [mR (some 80), mI (m : Int), mI (i : Int), mI f] σ = some (some (mI 1), sI σ 106 (16 * m + i) f) := by
  have b106 : 0 ≤ ((16 * m + i : Nat) : Int) ∧ ((16 * m + i : Nat) : Int) < 128 := by omega
  rw [M421, e421_0, T418y C hm h (by decide)]
  simp only [Option.bind_some, Option.toList_some, Option.toList_none, List.cons_append, List.nil_append]
  rw [e421_6, if_neg n10, if_neg (by omega), if_pos (by rw [g_99]; omega), Int.toNat_natCast, if_neg (by omega), if_neg (by omega), if_pos (by omega), wa_16 hm (by omega), if_pos (by rw [g_106]; exact b106), Int.toNat_natCast]
end RMETH
