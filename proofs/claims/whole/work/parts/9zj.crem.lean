/-! ===== the class's runs: REMOVE ===== -/
section CREM
variable {σ τ ρ : MS} {W V : WR} {m n p q p0 e j i c z N : Nat} {L : List B64} {y k : Int} {E : EV} {φ : Nat → Nat} {x : B64}
/-- a list loses an element -/
theorem T55 (hm : m < 8) (hN : gI σ 34 m = ((N + 1 : Nat) : Int)) (hN16 : N < 16) (he : e ≤ N) : ∃ τ, MM 55 [mR (some 26), mI (m : Int), mI (e : Int)] σ = some (none, τ) ∧ τ.2 = σ.2 ∧ ∀ k s, gI τ k s = if k = 34 ∧ s = m then (N : Int) else if k = 35 ∧ 16 * m + e ≤ s ∧ s < 16 * m + N then gI σ 35 (s + 1) else gI σ k s := by
  have b0 : 0 ≤ (m : Int) ∧ (m : Int) < 8 := by omega
  obtain ⟨υ, hυ⟩ : ∃ υ, υ = sI σ 34 m (N : Int) := ⟨_, rfl⟩
  have key : ∀ (f j : Nat) (ρ : MS), e + j + f = N → ρ.2 = σ.2 → (∀ k s, gI ρ k s = if k = 34 ∧ s = m then (N : Int) else if k = 35 ∧ 16 * m + e ≤ s ∧ s < 16 * m + (e + j) then gI σ 35 (s + 1) else gI σ k s) →
      ∃ τ, RR (lkB tb55) (B55_12, [some (mR (some 26)), some (mI (m : Int)), some (mI (e : Int)), some (mI ((e + j : Nat) : Int))], [], ρ) = some (none, τ) ∧ τ.2 = σ.2 ∧ ∀ k s, gI τ k s = if k = 34 ∧ s = m then (N : Int) else if k = 35 ∧ 16 * m + e ≤ s ∧ s < 16 * m + N then gI σ 35 (s + 1) else gI σ k s := by
    intro f
    induction f with
    | zero =>
      intro j ρ z r2 r
      have z : e + j = N := by omega
      have g34 : gI ρ 34 m = (N : Int) := by rw [r, if_pos ⟨rfl, rfl⟩]
      have le : (N : Int) ≤ ((e + j : Nat) : Int) := by omega
      refine ⟨ρ, ?_, r2, fun k s => by rw [r, z]⟩
      rw [e55_12]
      simp only [Option.getD_some, Option.bind_some, Option.toList_some, Option.toList_none, List.cons_append, List.nil_append, and_self, and_true, true_and, false_and, and_false, ite_self, not_true_eq_false, not_false_eq_true, reduceIte, Nat.reduceEqDiff, ab_I, ab_L, ab_R, ao_I, ao_L, ao_R, gL_sL, gI_sI, gR_sR, gI_sL, gI_sR, gL_sI, gL_sR, gR_sI, gR_sL, g_34, b0.1, b0.2, Int.toNat_natCast, g34, le, if_true]
    | succ f ih =>
      intro j ρ z r2 r
      have g34 : gI ρ 34 m = (N : Int) := by rw [r, if_pos ⟨rfl, rfl⟩]
      have nl : ¬ (N : Int) ≤ ((e + j : Nat) : Int) := by omega
      have b1 : 0 ≤ ((16 * m + (e + j) + 1 : Nat) : Int) ∧ ((16 * m + (e + j) + 1 : Nat) : Int) < 128 := by omega
      have b2 : 0 ≤ ((16 * m + (e + j) : Nat) : Int) ∧ ((16 * m + (e + j) : Nat) : Int) < 128 := by omega
      have j3 : e + j < 100000 := by omega
      have z1 : e + (j + 1) + f = N := by omega
      have x1 : gI ρ 35 (16 * m + (e + j) + 1) = gI σ 35 (16 * m + (e + j) + 1) := by rw [r, if_neg (by omega), if_neg (by omega)]
      have ih := ih (j + 1) (sI ρ 35 (16 * m + (e + j)) (gI σ 35 (16 * m + (e + j) + 1))) z1 r2 fun k s => by
        rw [gI_sI, r]
        by_cases q : k = 35 ∧ s = 16 * m + (e + j)
        · rw [if_pos q, if_neg (by omega), if_pos ⟨q.1, by omega, by omega⟩, q.2]
        · rw [if_neg q]
          by_cases q1 : k = 34 ∧ s = m
          · rw [if_pos q1, if_pos q1]
          · rw [if_neg q1, if_neg q1]
            by_cases q2 : k = 35 ∧ 16 * m + e ≤ s ∧ s < 16 * m + (e + j)
            · rw [if_pos q2, if_pos ⟨q2.1, q2.2.1, by omega⟩]
            · rw [if_neg q2, if_neg (by omega)]
      have w1 : w32 (w32 ((m : Int) * 16) + ((e + j : Nat) : Int)) = ((16 * m + (e + j) : Nat) : Int) := by
        rw [w32_i (x := (m : Int) * 16) (by omega) (by omega), w32_i (by omega) (by omega)]
        omega
      have w2 : w32 (((16 * m + (e + j) : Nat) : Int) + 1) = ((16 * m + (e + j) + 1 : Nat) : Int) := w32_s (by omega)
      have ww : w32 (((e + j : Nat) : Int) + 1) = ((e + j + 1 : Nat) : Int) := w32_s j3
      obtain ⟨τ, t, t2, t3⟩ := ih
      refine ⟨τ, ?_, t2, t3⟩
      rw [e55_12]
      simp only [Option.getD_some, Option.bind_some, Option.toList_some, Option.toList_none, List.cons_append, List.nil_append, and_self, and_true, true_and, false_and, and_false, ite_self, not_true_eq_false, not_false_eq_true, reduceIte, Nat.reduceEqDiff, ab_I, ab_L, ab_R, ao_I, ao_L, ao_R, gL_sL, gI_sI, gR_sR, gI_sL, gI_sR, gL_sI, gL_sR, gR_sI, gR_sL, g_34, b0.1, b0.2, Int.toNat_natCast, g34, nl, if_false, g_35, w1, w2, b1.1, b1.2, b2.1, b2.2, x1, ww]
      exact t
  have w1 : w32 (((N + 1 : Nat) : Int) - 1) = (N : Int) := by
    rw [w32_i (by omega) (by omega)]
    omega
  have z := key (N - e) 0 υ (by omega) (by rw [hυ]; rfl) fun k s => by
    rw [hυ, gI_sI]
    by_cases q1 : k = 34 ∧ s = m
    · rw [if_pos q1, if_pos q1]
    · rw [if_neg q1, if_neg q1, if_neg (by omega)]
  obtain ⟨τ, t, t2⟩ := z
  refine ⟨τ, ?_, t2⟩
  rw [M55, e55_0]
  simp only [Option.getD_some, Option.bind_some, Option.toList_some, Option.toList_none, List.cons_append, List.nil_append, and_self, and_true, true_and, false_and, and_false, ite_self, not_true_eq_false, not_false_eq_true, reduceIte, Nat.reduceEqDiff, ab_I, ab_L, ab_R, ao_I, ao_L, ao_R, gL_sL, gI_sI, gR_sR, gI_sL, gI_sR, gL_sI, gL_sR, gR_sI, gR_sL, g_34, b0.1, b0.2, Int.toNat_natCast, hN, w1, ← hυ]
  exact t
/-- REMOVE -/
theorem T54 (hm : m < 8) (o : okmC σ m) (hp : p + (gI σ 31 m).toNat ≤ 25364) : ∃ τ, MM 54 [mR (some 26), mI (m : Int), mR (some 27), mI (p : Int)] σ = some (some (mI (if gI σ 30 m = 0 then -22 else match entC σ m p with | none => -2 | some _ => 0)), τ) ∧
    (gI σ 30 m = 0 ∨ entC σ m p = none → τ = σ) ∧ ∀ e, gI σ 30 m = 1 → entC σ m p = some e → (e : Int) < gI σ 34 m ∧ τ.2 = σ.2 ∧ ∀ k s, gI τ k s = if k = 34 ∧ s = m then gI σ 34 m - 1 else if k = 35 ∧ 16 * m + e ≤ s ∧ s + 1 < 16 * m + (gI σ 34 m).toNat then gI σ 35 (s + 1) else if k = 37 ∧ s = 32 * m + (gI σ 35 (16 * m + e)).toNat then 2 else if k = 26 ∧ s = 12 then 1 else gI σ k s := by
  have b0 : 0 ≤ (m : Int) ∧ (m : Int) < 8 := by omega
  have t49 := T49 hm o hp
  obtain ⟨o1, o2, o3, o4, o5, o6⟩ := o
  by_cases k0 : gI σ 30 m = 0
  · refine ⟨σ, ?_, fun _ => rfl, fun e k1 => by omega⟩
    rw [if_pos k0, M54, e54_0]
    simp only [Option.getD_some, Option.bind_some, Option.toList_some, Option.toList_none, List.cons_append, List.nil_append, and_self, and_true, true_and, false_and, and_false, ite_self, not_true_eq_false, not_false_eq_true, reduceIte, Nat.reduceEqDiff, ab_I, ab_L, ab_R, ao_I, ao_L, ao_R, gL_sL, gI_sI, gR_sR, gI_sL, gI_sR, gL_sI, gL_sR, gR_sI, gR_sL, g_30, b0.1, b0.2, Int.toNat_natCast, k0, not_true_eq_false, if_false]
  · have fe : fenC σ m p = entC σ m p := if_neg k0
    rw [fe] at t49
    rw [if_neg k0]
    cases qe : entC σ m p with
    | none =>
      have i1 : ioN none = -1 := rfl
      have nn : ¬ (0 : Int) ≤ -1 := by decide
      refine ⟨σ, ?_, fun _ => rfl, fun e _ y => by cases y⟩
      rw [qe, i1] at t49
      rw [M54, e54_0]
      simp only [Option.getD_some, Option.bind_some, Option.toList_some, Option.toList_none, List.cons_append, List.nil_append, and_self, and_true, true_and, false_and, and_false, ite_self, not_true_eq_false, not_false_eq_true, reduceIte, Nat.reduceEqDiff, ab_I, ab_L, ab_R, ao_I, ao_L, ao_R, gL_sL, gI_sI, gR_sR, gI_sL, gI_sR, gL_sI, gL_sR, gR_sI, gR_sL, g_30, b0.1, b0.2, Int.toNat_natCast, eq_false k0, not_false_eq_true, if_true, t49, e54_19, nn, if_false]
    | some e =>
      obtain ⟨h34, h35⟩ := o6 (by omega)
      have el := List.mem_range.mp (List.mem_of_find?_eq_some qe)
      have h5 := h35 e (by omega)
      obtain ⟨N, hN⟩ : ∃ N : Nat, gI σ 34 m = ((N + 1 : Nat) : Int) := ⟨(gI σ 34 m).toNat - 1, by omega⟩
      obtain ⟨c, hc⟩ : ∃ c : Nat, c = (gI σ 35 (16 * m + e)).toNat := ⟨_, rfl⟩
      have ec : gI σ 35 (16 * m + e) = (c : Int) := by omega
      obtain ⟨υ, hυ⟩ : ∃ υ, υ = sI (sI σ 37 (32 * m + c) 2) 26 12 1 := ⟨_, rfl⟩
      have gu : ∀ k s, gI υ k s = if k = 37 ∧ s = 32 * m + c then 2 else if k = 26 ∧ s = 12 then 1 else gI σ k s := fun k s => by
        rw [hυ, gI_sI, gI_sI]
        by_cases q1 : k = 37 ∧ s = 32 * m + c
        · rw [if_pos q1, if_neg (by omega), if_pos q1]
        · rw [if_neg q1, if_neg q1]
      have u34 : gI υ 34 m = ((N + 1 : Nat) : Int) := by rw [gu, if_neg (by omega), if_neg (by omega)]; exact hN
      obtain ⟨τ, t, t2, t3⟩ := T55 (e := e) hm u34 (by omega) (by omega)
      have b1 : 0 ≤ ((16 * m + e : Nat) : Int) ∧ ((16 * m + e : Nat) : Int) < 128 := by omega
      have b2 : 0 ≤ ((32 * m + c : Nat) : Int) ∧ ((32 * m + c : Nat) : Int) < 256 := by omega
      have e0 : 0 ≤ (e : Int) := by omega
      have i1 : ioN (some e) = (e : Int) := rfl
      refine ⟨τ, ?_, fun y => ?_, fun e' _ y => ?_⟩
      · have w1 : w32 (w32 ((m : Int) * 16) + (e : Int)) = ((16 * m + e : Nat) : Int) := by
          rw [w32_i (x := (m : Int) * 16) (by omega) (by omega), w32_i (by omega) (by omega)]
          omega
        have w2 : w32 (w32 ((m : Int) * 32) + (c : Int)) = ((32 * m + c : Nat) : Int) := by
          rw [w32_i (x := (m : Int) * 32) (by omega) (by omega), w32_i (by omega) (by omega)]
          omega
        have w8' : w8 2 = 2 := by decide
        rw [qe, i1] at t49
        rw [M54, e54_0]
        simp only [Option.getD_some, Option.bind_some, Option.toList_some, Option.toList_none, List.cons_append, List.nil_append, and_self, and_true, true_and, false_and, and_false, ite_self, not_true_eq_false, not_false_eq_true, reduceIte, Nat.reduceEqDiff, ab_I, ab_L, ab_R, ao_I, ao_L, ao_R, gL_sL, gI_sI, gR_sR, gI_sL, gI_sR, gL_sI, gL_sR, gR_sI, gR_sL, g_30, b0.1, b0.2, Int.toNat_natCast, eq_false k0, not_false_eq_true, if_true, t49, e54_19, e0, g_35, w1, b1.1, b1.2, ec, g_37, w2, b2.1, b2.2, w8', ← hυ, t, e54_64]
      · rcases y with y | y
        · exact absurd y k0
        · cases y
      · cases y
        refine ⟨by omega, t2.trans (by rw [hυ]; rfl), fun k s => ?_⟩
        rw [t3, hN]
        by_cases q1 : k = 34 ∧ s = m
        · rw [if_pos q1, if_pos q1]
          omega
        · rw [if_neg q1, if_neg q1]
          by_cases q2 : k = 35 ∧ 16 * m + e ≤ s ∧ s < 16 * m + N
          · rw [if_pos q2, if_pos ⟨q2.1, q2.2.1, by omega⟩, gu, if_neg (by omega), if_neg (by omega)]
          · rw [if_neg q2, if_neg (by omega), gu, ← hc]
theorem rem_C (h : wldC σ φ W) (hb : bOk σ) (hI : invW W) (hm : m < 8) (o : okmC σ m) (hp : p + (wg W 97 m).toNat ≤ 25364) : ∃ τ, MM 54 [mR (some 26), mI (m : Int), mR (some 27), mI (p : Int)] σ = some (some (mI (remR W m ((rmC σ p (wg W 97 m).toNat).map kpW) 1).2), τ) ∧ wldC τ φ (remR W m ((rmC σ p (wg W 97 m).toNat).map kpW) 1).1 ∧ τ.2 = σ.2 ∧ ∀ k s, ¬ (k = 34 ∨ k = 35 ∨ k = 37 ∨ (k = 26 ∧ s = 12)) → gI τ k s = gI σ k s := by
  have pk := hI.2.2.2.1.1.2
  have h' := h
  obtain ⟨hM, k4, k5, k6, k7, k8, k9, k10, k11⟩ := h'
  obtain ⟨a1, a2, a3, a4, a5, a6⟩ := hM.1 m hm
  have a1' := a1
  obtain ⟨c1, c2, c3, c4, c5⟩ := a1'
  obtain ⟨τ, t, t1, t2⟩ := T54 (p := p) hm o (by rw [← c3]; exact hp)
  obtain ⟨o1, o2, o3, o4, o5, o6⟩ := o
  refine ⟨τ, ?_⟩
  unfold remR
  by_cases k0 : gI σ 30 m = 0
  · rw [if_pos k0] at t
    rw [if_pos (c2.trans k0), t1 (Or.inl k0)]
    rw [t1 (Or.inl k0)] at t
    exact ⟨t, h, rfl, fun _ _ _ => rfl⟩
  · have k1 : gI σ 30 m = 1 := by omega
    have k1' := c2.trans k1
    have ee := ent_e (p := p) hm a1 a2 k1' hb (by omega)
    rw [if_neg k0] at t
    rw [if_neg (show ¬ wg W 96 m = 0 by rw [c2]; exact k0), ← ee]
    cases qe : entC σ m p with
    | none =>
      rw [t1 (Or.inr qe)] at t ⊢
      rw [qe] at t
      exact ⟨t, h, rfl, fun _ _ _ => rfl⟩
    | some e =>
      rw [qe] at t
      obtain ⟨el, tt, g⟩ := t2 e k1 qe
      obtain ⟨⟨u1, u0⟩, u2, u3⟩ := a2 k1'
      obtain ⟨N, hN⟩ : ∃ N : Nat, gI σ 34 m = ((N + 1 : Nat) : Int) := ⟨(gI σ 34 m).toNat - 1, by omega⟩
      have w1 : wg W 101 m = ((N + 1 : Nat) : Int) := u1.trans hN
      obtain ⟨⟨q4, q5, q6⟩, q7, q8, q9⟩ := u2 e (by omega)
      obtain ⟨c, hc⟩ : ∃ c : Nat, c = (wg W 103 (16 * m + e)).toNat := ⟨_, rfl⟩
      have nN : (wg W 101 m - 1).toNat = N := by omega
      have wN : wg W 101 m - 1 = (N : Int) := by omega
      rw [← q4, ← hc] at g
      rw [hN] at g
      refine ⟨t, ?_, tt, fun k s z => ?_⟩
      · show wldC τ φ (wmv (wmv (wset (wset (wset W 104 (32 * m + (wg W 103 (16 * m + e)).toNat) 1) 105 (32 * m + (wg W 103 (16 * m + e)).toNat) 1) 101 m (wg W 101 m - 1)) 103 (16 * m + e) (16 * m + (wg W 101 m - 1).toNat) 1) 102 (256 * m + 16 * e) (256 * m + 16 * (wg W 101 m - 1).toNat) 16)
        rw [← hc, nN, wN]
        obtain ⟨V, hV⟩ : ∃ V, V = wmv (wmv (wset (wset (wset W 104 (32 * m + c) 1) 105 (32 * m + c) 1) 101 m (N : Int)) 103 (16 * m + e) (16 * m + N) 1) 102 (256 * m + 16 * e) (256 * m + 16 * N) 16 := ⟨_, rfl⟩
        rw [← hV]
        have v : ∀ k s, wg V k s = if k = 102 ∧ 256 * m + 16 * e ≤ s ∧ s < 256 * m + 16 * N then wg W 102 (s + 16) else if k = 103 ∧ 16 * m + e ≤ s ∧ s < 16 * m + N then wg W 103 (s + 1) else if k = 101 ∧ s = m then (N : Int) else if (k = 104 ∨ k = 105) ∧ s = 32 * m + c then 1 else wg W k s := fun k s => by
          rw [hV]
          show (if k = 102 ∧ 256 * m + 16 * e ≤ s ∧ s < 256 * m + 16 * N then (if 102 = 103 ∧ 16 * m + e ≤ s + 16 ∧ s + 16 < 16 * m + N then wg (wset (wset (wset W 104 (32 * m + c) 1) 105 (32 * m + c) 1) 101 m (N : Int)) 103 (s + 16 + 1) else wg (wset (wset (wset W 104 (32 * m + c) 1) 105 (32 * m + c) 1) 101 m (N : Int)) 102 (s + 16)) else (if k = 103 ∧ 16 * m + e ≤ s ∧ s < 16 * m + N then wg (wset (wset (wset W 104 (32 * m + c) 1) 105 (32 * m + c) 1) 101 m (N : Int)) 103 (s + 1) else wg (wset (wset (wset W 104 (32 * m + c) 1) 105 (32 * m + c) 1) 101 m (N : Int)) k s)) = _
          by_cases y1 : k = 102 ∧ 256 * m + 16 * e ≤ s ∧ s < 256 * m + 16 * N
          · rw [if_pos y1, if_pos y1, if_neg (by omega), wg_wset_o (by decide), wg_wset_o (by decide), wg_wset_o (by decide)]
          · rw [if_neg y1, if_neg y1]
            by_cases y2 : k = 103 ∧ 16 * m + e ≤ s ∧ s < 16 * m + N
            · rw [if_pos y2, if_pos y2, wg_wset_o (by decide), wg_wset_o (by decide), wg_wset_o (by decide)]
            · rw [if_neg y2, if_neg y2, wg_wset, wg_wset, wg_wset]
              by_cases y3 : k = 101 ∧ s = m
              · rw [if_pos y3, if_pos y3]
              · rw [if_neg y3, if_neg y3]
                by_cases y4 : k = 105 ∧ s = 32 * m + c
                · rw [if_pos y4, if_pos ⟨Or.inr y4.1, y4.2⟩]
                · rw [if_neg y4]
                  by_cases y5 : k = 104 ∧ s = 32 * m + c
                  · rw [if_pos y5, if_pos ⟨Or.inl y5.1, y5.2⟩]
                  · rw [if_neg y5, if_neg (by omega)]
        have gn : ∀ k s, ¬ (k = 34 ∨ k = 35 ∨ k = 37 ∨ (k = 26 ∧ s = 12)) → gI τ k s = gI σ k s := fun k s y => by
          rw [g, if_neg (by omega), if_neg (by omega), if_neg (by omega), if_neg (by omega)]
        have vn : ∀ k s, ¬ (101 ≤ k ∧ k ≤ 105) → wg V k s = wg W k s := fun k s y => by
          rw [v, if_neg (by omega), if_neg (by omega), if_neg (by omega), if_neg (by omega)]
        have v2 : V.2 = W.2 := by rw [hV]; rfl
        have lg := gL_2 tt
        have g26 : gI τ 26 12 = 1 := by rw [g, if_neg (by omega), if_neg (by omega), if_neg (by omega), if_pos ⟨rfl, rfl⟩]
        have v97 : wg V 97 m = wg W 97 m := vn _ _ (by omega)
        -- where an entry stood
        obtain ⟨r, hr⟩ : ∃ r : Nat → Nat, r = fun e' => if e ≤ e' then e' + 1 else e' := ⟨_, rfl⟩
        have rN : ∀ e', e' < N → r e' < N + 1 ∧ ¬ r e' = e := fun e' he' => by
          rw [hr]
          dsimp only
          split <;> omega
        have r3 : ∀ e', e' < N → wg V 103 (16 * m + e') = wg W 103 (16 * m + r e') ∧ gI τ 35 (16 * m + e') = gI σ 35 (16 * m + r e') := fun e' he' => by
          rw [hr]
          dsimp only
          by_cases y : e ≤ e'
          · rw [if_pos y, v, if_neg (by omega), if_pos ⟨rfl, by omega, by omega⟩, g, if_neg (by omega), if_pos ⟨rfl, by omega, by omega⟩]
            exact ⟨rfl, rfl⟩
          · rw [if_neg y, v, if_neg (by omega), if_neg (by omega), if_neg (by omega), if_neg (by omega), g, if_neg (by omega), if_neg (by omega), if_neg (by omega), if_neg (by omega)]
            exact ⟨rfl, rfl⟩
        have v4 : ∀ k i, k = 104 ∨ k = 105 → i < 32 → wg V k (32 * m + i) = if i = c then 1 else wg W k (32 * m + i) := fun k i hk hi => by
          rw [v, if_neg (by omega), if_neg (by omega), if_neg (by omega)]
          by_cases q : i = c
          · rw [if_pos q, if_pos ⟨hk, by omega⟩]
          · rw [if_neg q, if_neg (by omega)]
        have g7 : ∀ i, i < 32 → gI τ 37 (32 * m + i) = if i = c then 2 else gI σ 37 (32 * m + i) := fun i hi => by
          rw [g, if_neg (by omega), if_neg (by omega)]
          by_cases q : i = c
          · rw [if_pos q, if_pos ⟨rfl, by omega⟩]
          · rw [if_neg q, if_neg (by omega), if_neg (by omega)]
        refine ⟨wldM_t hM k1' (fun k s y1 y2 => ?_) (fun s y => gn _ _ (by omega)) (fun k s y1 y2 => ?_) (fun _ => by rw [g26]; decide) (fun _ => ⟨⟨?_, ?_⟩, fun e' he' => ?_, fun i hi => ⟨?_, ?_, fun _ => by rw [g26]; decide, ?_⟩⟩), wcV_q k4 (fun s y => gn _ _ (by omega)) (fun s => vn _ _ (by omega)), wcQ_q k5 pk (fun s y => gn _ _ (by omega)) (fun s => vn _ _ (by omega)) (vn _ _ (by omega)), wcZ_q k6 (fun s y => gn _ _ (by omega)) (fun s y => vn _ _ (by omega)), wcG_q k7 (fun s => gn _ _ (by omega)) (fun s => vn _ _ (by omega)), wcX_q k8 (fun s => gn _ _ (by omega)) (fun s => vn _ _ (by omega)) (vn _ _ (by omega)), wcC_q k9 (fun s y => gn _ _ (by omega)) (vn _ _ (by omega)), wcY_q k10 (fun s y => gn _ _ (by omega)) (fun s y => vn _ _ (by omega)), wcL_q k11 (lg _ _) (lg _ _) v2⟩
        · rw [g, if_neg (by omega), if_neg (by omega), if_neg (by omega), if_neg (by omega)]
        · rw [v, if_neg (by omega), if_neg (by omega), if_neg (by omega), if_neg (by omega)]
        · rw [v, if_neg (by omega), if_neg (by omega), if_pos ⟨rfl, rfl⟩, g, if_pos ⟨rfl, rfl⟩]
          omega
        · rw [v, if_neg (by omega), if_neg (by omega), if_pos ⟨rfl, rfl⟩]
          omega
        · rw [v 101 m, if_neg (by omega), if_neg (by omega), if_pos ⟨rfl, rfl⟩] at he'
          obtain ⟨x1, x2⟩ := rN e' (by omega)
          obtain ⟨y1, y2⟩ := r3 e' (by omega)
          obtain ⟨⟨p4, p5, p6⟩, p7, p8, p9⟩ := u2 (r e') (by omega)
          have nc : ¬ (wg W 103 (16 * m + r e')).toNat = c := fun y => x2 (q8 (r e') (by omega) (by omega))
          rw [y1, y2]
          refine ⟨⟨p4, p5, p6⟩, ?_, fun e'' he'' y => ?_, fun k hk hkz => ?_⟩
          · rw [g7 _ (by omega), if_neg nc]
            exact p7
          · rw [v 101 m, if_neg (by omega), if_neg (by omega), if_pos ⟨rfl, rfl⟩] at he''
            rw [(r3 e'' (by omega)).1] at y
            have := p8 (r e'') (by have := (rN e'' (by omega)).1; omega) y
            rw [hr] at this
            dsimp only at this
            split at this <;> split at this <;> omega
          · rw [v97] at hkz
            have z := p9 k hk hkz
            rw [gn 28 _ (by omega), ← z, v]
            rw [hr]
            dsimp only
            by_cases y : e ≤ e'
            · rw [if_pos ⟨rfl, by omega, by omega⟩, if_pos y]
              exact congrArg (wg W 102) (by omega)
            · rw [if_neg (by omega), if_neg (by omega), if_neg (by omega), if_neg (by omega), if_neg y]
        · rw [v4 104 i (Or.inl rfl) hi, g7 i hi]
          by_cases q : i = c
          · rw [if_pos q, if_pos q]
            exact ⟨fun y => absurd y (by decide), fun y => absurd y (by decide)⟩
          · rw [if_neg q, if_neg q]
            exact (u3 i hi).1
        · rw [v4 105 i (Or.inr rfl) hi, g7 i hi]
          by_cases q : i = c
          · rw [if_pos q, if_pos q]
            exact ⟨fun _ => rfl, fun _ => by decide⟩
          · rw [if_neg q, if_neg q]
            exact (u3 i hi).2.1
        · rw [v4 104 i (Or.inl rfl) hi]
          by_cases q : i = c
          · rw [if_pos q]
            exact Or.inr rfl
          · rw [if_neg q]
            exact (u3 i hi).2.2.2
      · rw [g, if_neg (by omega), if_neg (by omega), if_neg (by omega), if_neg (by omega)]
end CREM
