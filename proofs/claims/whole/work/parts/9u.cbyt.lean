/-! ===== the class's runs: registers, bytes that are read (session 9, not yet compiled) ===== -/
section CBYT
variable {σ τ ρ : MS} {c c' : TC WR} {W V : WR} {w x A a : B64} {v : SV} {r f b k n o s p m : Nat} {l : List B64} {y : Int} {φ : Nat → Nat}
theorem pl_s (h : 2 ≤ o ∧ o ≤ 5) : plC φ o = 256 + 128 * (o - 2) := by
  unfold plC
  rw [if_neg (by omega), if_pos h]
theorem pl_c (h : 16 ≤ o ∧ o ≤ 271) : plC φ o = 788 + 64 * (o - 16) := by
  unfold plC
  rw [if_neg (by omega), if_neg (by omega), if_pos h]
theorem pl_r (h : 300 ≤ o ∧ o ≤ 363) : plC φ o = 17172 + 64 * φ (o - 300) := by
  unfold plC
  rw [if_neg (by omega), if_neg (by omega), if_neg (by omega), if_pos h]
theorem pl_p : plC φ 280 = 0 := rfl
theorem ad_C (h : ¬ (8 ≤ o ∧ o ≤ 15)) : adC φ o + BitVec.ofNat 64 b = iL (1048576 + ((plC φ o + b : Nat) : Int)) := by
  unfold adC
  rw [if_neg h, iLnat, iLa]
  exact congrArg iL (by omega)
theorem okBs_C (hφ : ∀ i, i < 64 → φ i < 128 ∨ True) (ho : o < 400) (hm : ¬ (8 ≤ o ∧ o ≤ 15)) (hb : plC φ o < 1000000) : okBs (adC φ) o := by
  have e : adC φ o = iL (1048576 + (plC φ o : Int)) := by
    unfold adC
    rw [if_neg hm]
  show 524288 ≤ (adC φ o).toInt ∧ (adC φ o).toInt < 1099511627776
  rw [e, iLt (by omega) (by omega)]
  omega
/-- a register is read -/
theorem rd_C (h : RelC σ φ c) (hr : r ≤ 10) (z : ¬ (rdR c r).1 = 6) : gL σ 76 r = enK φ (rdR c r) ∧ okSV (rdR c r) := by
  obtain ⟨⟨⟨a1, a2⟩, _⟩, ⟨b1, _, b3⟩, _⟩ := h
  unfold rdR at z ⊢
  by_cases e : r = 10
  · rw [if_pos e, e]
    exact ⟨b3, okSV_p (Or.inl (by omega))⟩
  · rw [if_neg e] at z ⊢
    have := b1 r (by omega)
    exact ⟨this.2 z, this.1⟩
/-- a byte is read -/
theorem rdB_C (h : RelC σ φ c) (e : rdB RB c o b = some x) : obR o b ∧ plC φ o + b < 25364 ∧ x = byW (gI σ 27 (plC φ o + b)) := by
  obtain ⟨_, _, d, _, _, ⟨⟨km, kh, k14⟩, k4, k5, k6, k7, k8, k9, k10, k11⟩⟩ := h
  unfold rdB at e
  by_cases q1 : 2 ≤ o ∧ o ≤ 5
  · rw [if_pos q1] at e
    by_cases q2 : b < 128 ∧ (cS c (o - 2) b).1 = 1
    · rw [if_pos q2] at e
      have e := Option.some.inj e
      have m := (d (o - 2) b (by omega) q2.1).1 q2.2
      rw [pl_s q1]
      exact ⟨Or.inl ⟨q1, q2.1⟩, by omega, e.symm.trans m.symm⟩
    · rw [if_neg q2] at e
      cases e
  · rw [if_neg q1] at e
    by_cases q3 : 16 ≤ o ∧ o ≤ 271
    · rw [if_pos q3] at e
      by_cases q2 : b < 64
      · rw [if_pos q2] at e
        have e := Option.some.inj e
        rw [pl_c q3]
        refine ⟨Or.inr (Or.inl ⟨q3, q2⟩), by omega, ?_⟩
        have e : byW (if o ≤ 271 then wg (cW c) 100 (64 * (o - 16) + b) else if o = 280 then wg (cW c) 144 b else wg (cW c) 149 (64 * (o - 300) + b)) = x := e
        rw [if_pos q3.2, k4 _ (by omega)] at e
        rw [← e, show 788 + 64 * (o - 16) + b = 788 + (64 * (o - 16) + b) by omega]
      · rw [if_neg q2] at e
        cases e
    · rw [if_neg q3] at e
      by_cases q4 : o = 280
      · rw [if_pos q4] at e
        by_cases q2 : b < RB.1 (cW c)
        · rw [if_pos q2] at e
          have e := Option.some.inj e
          have l6 : RB.1 (cW c) ≤ 256 := RB_ok.2.2 _
          have lb : (b : Int) < wg (cW c) 80 105 := by
            have : RB.1 (cW c) = min (wg (cW c) 80 105).toNat 256 := rfl
            omega
          subst q4
          rw [pl_p, Nat.zero_add]
          refine ⟨Or.inr (Or.inr (Or.inl ⟨rfl, by omega⟩)), by omega, ?_⟩
          have e : byW (if 280 ≤ 271 then wg (cW c) 100 (64 * (280 - 16) + b) else if 280 = 280 then wg (cW c) 144 b else wg (cW c) 149 (64 * (280 - 300) + b)) = x := e
          rw [if_neg (by decide), if_pos rfl, k5 _ lb] at e
          exact e.symm
        · rw [if_neg q2] at e
          cases e
      · rw [if_neg q4] at e
        by_cases q5 : 300 ≤ o ∧ o ≤ 363
        · rw [if_pos q5] at e
          by_cases q2 : b < 64 ∧ RB.2.2.2.1 (cW c) (o - 300) = true
          · rw [if_pos q2] at e
            have e := Option.some.inj e
            have hh : ¬ wg (cW c) 152 (o - 300) = 0 := of_decide_eq_true q2.2
            obtain ⟨m1, _, _, _, m5, _⟩ := kh (o - 300) (by omega) hh
            rw [pl_r q5]
            refine ⟨Or.inr (Or.inr (Or.inr ⟨q5, q2.1⟩)), by omega, ?_⟩
            have e : byW (if o ≤ 271 then wg (cW c) 100 (64 * (o - 16) + b) else if o = 280 then wg (cW c) 144 b else wg (cW c) 149 (64 * (o - 300) + b)) = x := e
            rw [if_neg (by omega), if_neg q4, m5 b q2.1] at e
            exact e.symm
          · rw [if_neg q2] at e
            cases e
        · rw [if_neg q5] at e
          cases e
/-- bytes are read -/
theorem rdL_C (h : RelC σ φ c) : ∀ (n b : Nat) (l : List B64), rdL RB c o b n = some l → (∀ i, i < n → obR o (b + i)) ∧ (1 ≤ n → plC φ o + b + n ≤ 25364) ∧ l = rmC σ (plC φ o + b) n := by
  intro n
  induction n with
  | zero =>
    intro b l e
    have e := Option.some.inj e
    exact ⟨fun i hi => absurd hi (Nat.not_lt_zero _), fun z => absurd z (by decide), e.symm⟩
  | succ n ih =>
    intro b l e
    unfold rdL at e
    cases e1 : rdB RB c o b with
    | none =>
      rw [e1] at e
      cases e
    | some y =>
      cases e2 : rdL RB c o (b + 1) n with
      | none =>
        rw [e1, e2] at e
        cases e
      | some t =>
        rw [e1, e2] at e
        have e := Option.some.inj e
        obtain ⟨a1, a2, a3⟩ := rdB_C h e1
        obtain ⟨b1, b2, b3⟩ := ih (b + 1) t e2
        refine ⟨fun i hi => ?_, fun _ => ?_, ?_⟩
        · cases i with
          | zero => exact a1
          | succ i =>
            have := b1 i (by omega)
            rwa [show b + 1 + i = b + (i + 1) by omega] at this
        · by_cases n0 : n = 0
          · subst n0
            omega
          · have := b2 (by omega)
            omega
        · rw [← e, a3, b3, rmC_c, show plC φ o + (b + 1) = plC φ o + b + 1 by omega]
/-- a register is written -/
theorem wr_C (h : RelC σ φ c) (hr : r < 10) (e : x = enK φ v) (k : okSV v) (lv : 300 ≤ v.1 → v.1 ≤ 363 ∧ ¬ wg (cW c) 152 (v.1 - 300) = 0) : RelC (sL σ 76 r x) φ (wrR c r v) := by
  obtain ⟨⟨⟨a1, a2⟩, a3⟩, ⟨b1, b2, b3⟩, d, e', ⟨l1, l2⟩, g⟩ := h
  refine ⟨⟨⟨a1, a2⟩, a3⟩, ⟨fun r' hr' => ?_, fun f r' hf hr' => ?_, ?_⟩, d, e', ⟨fun f r' z => ?_, l2⟩, ?_⟩
  · show vlC (sL σ 76 r x) φ 76 r' (if cN c - 1 = cN c - 1 ∧ r' = r then v else cR c (cN c - 1) r')
    by_cases q : r' = r
    · rw [if_pos ⟨rfl, q⟩]
      refine ⟨k, fun _ => ?_⟩
      rw [gL_sL, if_pos ⟨rfl, q⟩]
      exact e
    · rw [if_neg (fun z => q z.2)]
      refine ⟨(b1 r' hr').1, fun z => ?_⟩
      rw [gL_sL, if_neg (fun y => q y.2)]
      exact (b1 r' hr').2 z
  · have hf : f + 1 < cN c := hf
    show vlC (sL σ 76 r x) φ 77 (10 * f + r') (if f = cN c - 1 ∧ r' = r then v else cR c f r')
    rw [if_neg (by omega)]
    refine ⟨(b2 f r' hf hr').1, fun z => ?_⟩
    rw [gL_sL, if_neg (by omega)]
    exact (b2 f r' hf hr').2 z
  · rw [gL_sL, if_neg (by omega)]
    exact b3
  · have z : 300 ≤ (if f = cN c - 1 ∧ r' = r then v else cR c f r').1 := z
    show (if f = cN c - 1 ∧ r' = r then v else cR c f r').1 ≤ 363 ∧ ¬ wg (cW c) 152 ((if f = cN c - 1 ∧ r' = r then v else cR c f r').1 - 300) = 0
    by_cases q : f = cN c - 1 ∧ r' = r
    · rw [if_pos q] at z ⊢
      exact lv z
    · rw [if_neg q] at z ⊢
      exact l1 f r' z
  · have q13 : gL (sL σ 76 r x) 71 13 = gL σ 71 13 := by rw [gL_sL, if_neg (by omega)]
    have q16 : gL (sL σ 76 r x) 71 16 = gL σ 71 16 := by rw [gL_sL, if_neg (by omega)]
    exact ⟨g.1, g.2.1, g.2.2.1, g.2.2.2.1, g.2.2.2.2.1, g.2.2.2.2.2.1, g.2.2.2.2.2.2.1, g.2.2.2.2.2.2.2.1, wcL_q g.2.2.2.2.2.2.2.2 q13 q16 rfl⟩
end CBYT
