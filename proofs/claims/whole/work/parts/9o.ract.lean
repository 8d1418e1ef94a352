/-! ===== the reference's runs: an instruction, whole ===== -/
section RACT
variable {σ τ ρ υ : MS} {c c' : TC WR} {W V : WR} {w w2 x A a F v : B64} {r f b k n o s m e N : Nat} {y nx hh i p p' : Int} {E : EV} {S : Nat → Nat → MB} {u : SV} {R R' : Nat → Nat → SV} {B : Nat → Int}
theorem hp_all (h : RelR σ c) (hI : invW (cW c)) (hE : EC σ E) (h54 : gI σ 80 54 = 1) (e : hpT RB RH E c hh nx = some (k, c')) : hpo σ c hh nx k c' := by
  by_cases h1 : hh = 1
  · subst h1; exact hp_1 h hI hE e
  by_cases h2 : hh = 2
  · subst h2; exact hp_2 h hI hE e
  by_cases h3 : hh = 3
  · subst h3; exact hp_3 h hI hE h54 e
  by_cases h5 : hh = 5
  · subst h5; exact hp_5 h e
  by_cases h6 : hh = 6
  · subst h6; exact hp_6 h hI e
  by_cases h7 : hh = 7
  · subst h7; exact hp_7 h e
  by_cases h12 : hh = 12
  · subst h12; exact hp_12 h hI e
  by_cases h26 : hh = 26
  · subst h26; exact hp_26 h hI e
  by_cases h44 : hh = 44
  · subst h44; exact hp_44 h hI e
  by_cases h131 : hh = 131
  · subst h131; exact hp_131 h hI e
  by_cases h13 : hh = 132 ∨ hh = 133
  · exact hp_13 h hI h13 e
  exfalso
  unfold hpT at e
  rw [if_neg (by omega), if_neg h5, if_neg h6, if_neg h7, if_neg h12, if_neg h26, if_neg h44, if_neg h131, if_neg h13] at e
  cases e
/-- registers of which less is said -/
theorem RelR_n (h : RelR τ (p, N, R, S, B, W)) (hR : ∀ f r, R' f r = R f r ∨ R' f r = nilR) : RelR τ (p', N, R', S, B, W) := by
  obtain ⟨a, ⟨b1, b2⟩, d, e, g⟩ := h
  refine ⟨a, ⟨fun f r hf hr => ?_, b2⟩, d, e, g⟩
  show vlR τ (11 * f + r) (R' f r)
  rcases hR f r with q | q
  · rw [q]
    exact b1 f r hf hr
  · rw [q]
    exact ⟨okSV_n, fun z => absurd (show nilR.1 = 6 from rfl) z⟩
/-- a step's end -/
def stq (σ τ : MS) (c : TC WR) (k : Nat) (c' : TC WR) : Prop := mvR σ τ ∧
  ((k = 0 ∧ RelR τ c' ∧ gI τ 80 123 = cP c' ∧ gI τ 80 122 = gI σ 80 122 ∧ gI τ 80 124 = gI σ 80 124)
  ∨ (k = 1 ∧ RelR τ c ∧ c' = c ∧ gI τ 80 124 = 0 ∧ gI τ 80 122 = gI σ 80 122 ∧ gL τ 146 0 = (rdR c 0).2)
  ∨ (k = 2 ∧ cN c = 1 ∧ RelR τ (st0 (cW c')) ∧ gI τ 80 123 = 0 ∧ gI τ 80 122 = wg (cW c') 80 122 ∧ gI τ 80 124 = gI σ 80 124 ∧ slO (cW c) (cW c')))
/-- a call of a helper -/
theorem ch_R (h : RelR σ c) (hI : invW (cW c)) (hE : EC σ E) (h54 : gI σ 80 54 = 1) (hi : 0 ≤ i ∧ i < 1000) (h133 : fOp w = 133) (hs : ¬ fS w = 1) (h123 : gI σ 80 123 = nx) (e : hpT RB RH E c (fI w) nx = some (k, c')) : ∃ τ, MM 559 [mR (some 80), mL w, mI (fOp w), mI i] σ = some (none, τ) ∧ stq σ τ c k c' := by
  obtain ⟨v, τ, t1, mv, h124, q⟩ := hp_all h hI hE h54 e
  have t := T477 (σ := σ) (w := w) hi
  have F4 := (relF h).2
  have c5 : ¬ fOp w = 5 := by omega
  have c6 : ¬ fOp w = 6 := by omega
  have c9 : ¬ fOp w = 149 := by omega
  have t0 : MM 550 [mR (some 80), mI 0] σ = some (some (mI ((rpR c 0 : Nat) : Int)), σ) := T550r h (r := 0) (by decide)
  have b0 : 0 ≤ ((rpR c 0 : Nat) : Int) ∧ ((rpR c 0 : Nat) : Int) < 44 := by
    show 0 ≤ ((11 * (cN c - 1) + 0 : Nat) : Int) ∧ ((11 * (cN c - 1) + 0 : Nat) : Int) < 44
    omega
  refine ⟨sL τ 146 (rpR c 0) v, ?_, mvR_t mv mvR_L, ?_⟩
  · simp only [M559, e559_0, e559_6, e559_109, Option.getD_some, Option.bind_some, Option.toList_some, Option.toList_none, List.cons_append, List.nil_append, and_self, and_true, true_and, false_and, and_false, ite_self, not_true_eq_false, not_false_eq_true, reduceIte, Nat.reduceEqDiff, ab_I, ab_L, ab_R, ao_I, ao_L, ao_R, gL_sL, gI_sI, gR_sR, gI_sL, gI_sR, gL_sI, gL_sR, gR_sI, gR_sL, t, eq_false c5, eq_false c6, eq_false c9, eq_true h133, if_false, if_true, not_false_eq_true, not_true_eq_false, T334, hs, e559_189, t0]
    simp only [Option.getD_some, Option.bind_some, Option.toList_some, Option.toList_none, List.cons_append, List.nil_append, and_self, and_true, true_and, false_and, and_false, ite_self, not_true_eq_false, not_false_eq_true, reduceIte, Nat.reduceEqDiff, ab_I, ab_L, ab_R, ao_I, ao_L, ao_R, gL_sL, gI_sI, gR_sR, gI_sL, gI_sR, gL_sI, gL_sR, gR_sI, gR_sL, e559_205, T336, e559_210, t1, e559_213, g_146, b0.1, b0.2, Int.toNat_natCast]
  · rcases q with ⟨k0, g3, g2, R', S', W', u', ec, rel, ev, ok⟩ | ⟨k2, n1, g3, g2, rel, so⟩
    · refine Or.inl ⟨k0, ?_, ?_, g2, h124⟩
      · have z := wr_R (r := 0) (v := u') rel (by decide) ev ok
        rw [ec]
        refine RelR_n z fun f r => ?_
        show (if f = cN c - 1 ∧ r = 0 then u' else nilA R' (cN c - 1) f r) = (if f = cN c - 1 ∧ r = 0 then u' else R' f r) ∨ (if f = cN c - 1 ∧ r = 0 then u' else nilA R' (cN c - 1) f r) = nilR
        by_cases q1 : f = cN c - 1 ∧ r = 0
        · left
          rw [if_pos q1, if_pos q1]
        · rw [if_neg q1, if_neg q1]
          unfold nilA
          by_cases q2 : f = cN c - 1 ∧ 1 ≤ r ∧ r ≤ 5
          · right
            rw [if_pos q2]
          · left
            rw [if_neg q2]
      · show gI τ 80 123 = cP c'
        rw [g3, h123, ec]
    · refine Or.inr (Or.inr ⟨k2, n1, ?_, g3, g2, h124, so⟩)
      have z := wr_R (r := 0) (v := (0, v)) rel (by decide) enG_0.symm okSV_0
      have er : rpR c 0 = rpR (st0 (cW c')) 0 := by
        show 11 * (cN c - 1) + 0 = 11 * (1 - 1) + 0
        rw [n1]
      rw [er]
      refine RelR_n z fun f r => ?_
      show (if f = 0 ∧ r = 1 then (1, 0#64) else nilR) = (if f = 0 ∧ r = 0 then (0, v) else (if f = 0 ∧ r = 1 then (1, 0#64) else nilR)) ∨ (if f = 0 ∧ r = 1 then (1, 0#64) else nilR) = nilR
      by_cases q1 : f = 0 ∧ r = 1
      · left
        rw [if_pos q1, if_neg (by omega)]
      · right
        rw [if_neg q1]
theorem T557 (h : RelR σ c) (hI : invW (cW c)) (hE : EC σ E) (h54 : gI σ 80 54 = 1) (hP : 0 ≤ cP c ∧ cP c < 200) (hl : fL w = 0 → cP c < 199) (h123 : gI σ 80 123 = cP c) (hs : 0 ≤ gI σ 80 122 ∧ gI σ 80 122 < 8)
    (hw2 : gL σ 83 (200 * (gI σ 80 122).toNat + (cP c).toNat + 1) = w2) (ok : okI w w2) (hg : (fL w = 5 ∨ fL w = 6) → ¬ fOp w = 149 → (fOp w = 133 → fS w = 1) → 0 ≤ goal (cP c) w ∧ goal (cP c) w < 1000)
    (hX : ∀ b, cmT c w = some b → isCmp (fC w) → fD w ≤ 10 → (rgt w → fS w ≤ 10) → cmpW (fC w) (decide (widJ w)) (gL σ 146 (rpR c (dR w))) (sdR σ c w) = b)
    (e : stpT RB RH E c w w2 = some (k, c')) : ∃ τ, MM 557 [mR (some 80), mL w] σ = some (none, τ) ∧ stq σ τ c k c' := by
  have fr := fld_rng w
  have F4 := (relF h).2
  have P1 : -2147483648 ≤ cP c + 1 ∧ cP c + 1 < 2147483648 := by omega
  have P2 : -2147483648 ≤ cP c + 1 + 1 ∧ cP c + 1 + 1 < 2147483648 := by omega
  have hi : 0 ≤ cP c ∧ cP c < 1000 := by omega
  have e12 : cP c + 1 + 1 = cP c + 2 := by omega
  obtain ⟨υ, hυ⟩ : ∃ υ, υ = sI σ 80 123 (cP c + 1) := ⟨_, rfl⟩
  have ru : RelR υ c := by
    rw [hυ]
    exact RelR_i h (Or.inl rfl)
  have mu : mvR σ υ := by
    rw [hυ]
    exact mvR_I (by omega)
  have gu : ∀ k s, ¬ (k = 80 ∧ s = 123) → gI υ k s = gI σ k s := fun k s z => by rw [hυ, gI_sI, if_neg z]
  have g3 : gI υ 80 123 = cP c + 1 := by rw [hυ, gI_sI, if_pos ⟨rfl, rfl⟩]
  have lu : ∀ k s, gL υ k s = gL σ k s := fun k s => by rw [hυ]; rfl
  have EU : EC υ E := fun m hm => by
    rw [gu _ _ (by omega), gu _ _ (by omega)]
    exact hE m hm
  have u54 : gI υ 80 54 = 1 := (gu _ _ (by omega)).trans h54
  have w1 : w32 (gI σ 80 123 + 1) = cP c + 1 := by rw [h123, w32_i P1.1 P1.2]
  have w1' : w32 (cP c + 1) = cP c + 1 := w32_i P1.1 P1.2
  have w7 : iAnd (fOp w) 7 = fL w := m7 w
  have okp : ¬ fL w = 0 → okPl w := fun z => by
    rcases ok with q | q
    · exact absurd q.1 z
    · exact q
  have eD : fD w = ((dR w : Nat) : Int) := by show fD w = ((fD w).toNat : Int); omega
  -- a register is written, and on
  have fin0 : ∀ {v : SV}, fD w ≤ 9 → okSV v → stq σ (sL υ 146 (rpR c (dR w)) (enR v)) c 0 (goT (wrR c (dR w) v) (cP c + 1)) := fun {v} d9 kv => by
    refine ⟨mvR_t mu mvR_L, Or.inl ⟨rfl, wr_R ru (dR_9 d9) rfl kv, ?_, ?_, ?_⟩⟩
    · show gI υ 80 123 = cP c + 1
      exact g3
    · show gI υ 80 122 = _
      exact gu _ _ (by omega)
    · show gI υ 80 124 = _
      exact gu _ _ (by omega)
  unfold stpT at e
  by_cases l0 : fL w = 0
  · rw [if_pos l0] at e
    have hl := hl l0
    have okr : okPr w w2 := by
      rcases ok with q | q
      · exact q.2
      · unfold okPl at q
        rw [if_pos l0] at q
        exact q.elim
    obtain ⟨⟨o24, d9, _⟩, o2⟩ := okr
    have dl := dR_9 d9
    have td := T550r ru (r := dR w) (by omega)
    have t333 : MM 333 [mL w] υ = some (some (mI ((dR w : Nat) : Int)), υ) := by rw [T333, eD]
    have bD : 0 ≤ ((rpR c (dR w) : Nat) : Int) ∧ ((rpR c (dR w) : Nat) : Int) < 44 := by
      show 0 ≤ ((11 * (cN c - 1) + dR w : Nat) : Int) ∧ ((11 * (cN c - 1) + dR w : Nat) : Int) < 44
      omega
    rw [l0] at w7
    have fin2 : ∀ {v : SV}, okSV v → stq σ (sI (sL υ 146 (rpR c (dR w)) (enR v)) 80 123 (cP c + 2)) c 0 (goT (wrR c (dR w) v) (cP c + 2)) := fun {v} kv => by
      refine ⟨mvR_t (mvR_t mu mvR_L) (mvR_I (by omega)), Or.inl ⟨rfl, RelR_i (wr_R ru dl rfl kv) (Or.inl rfl), ?_, ?_, ?_⟩⟩
      · rw [gI_sI, if_pos ⟨rfl, rfl⟩]
        rfl
      · rw [gI_sI, if_neg (by omega)]
        exact gu _ _ (by omega)
      · rw [gI_sI, if_neg (by omega)]
        exact gu _ _ (by omega)
    by_cases s0 : fS w = 0
    · rw [if_pos s0] at e
      cases e
      have b2 : 0 ≤ ((200 * (gI σ 80 122).toNat + (cP c).toNat + 1 : Nat) : Int) ∧ ((200 * (gI σ 80 122).toNat + (cP c).toNat + 1 : Nat) : Int) < 1600 := by omega
      have sA : -2147483648 ≤ 200 * gI σ 80 122 ∧ 200 * gI σ 80 122 < 2147483648 := by omega
      have sB : -2147483648 ≤ 200 * gI σ 80 122 + cP c ∧ 200 * gI σ 80 122 + cP c < 2147483648 := by omega
      have sC : -2147483648 ≤ 200 * gI σ 80 122 + cP c + 1 ∧ 200 * gI σ 80 122 + cP c + 1 < 2147483648 := by omega
      have eC : 200 * gI σ 80 122 + cP c + 1 = ((200 * (gI σ 80 122).toNat + (cP c).toNat + 1 : Nat) : Int) := by omega
      have wp : w32 (w32 (w32 (200 * gI υ 80 122) + cP c) + 1) = ((200 * (gI σ 80 122).toNat + (cP c).toNat + 1 : Nat) : Int) := by
        rw [gu _ _ (by omega), w32_i sA.1 sA.2, w32_i sB.1 sB.2, w32_i sC.1 sC.2, eC]
      have hw2' : gL υ 83 (200 * (gI σ 80 122).toNat + (cP c).toNat + 1) = w2 := (lu _ _).trans hw2
      have w2' : w32 (cP c + 1 + 1) = cP c + 2 := by rw [w32_i P2.1 P2.2, e12]
      have n1 : ¬ (0 : Int) = 1 := by decide
      have lF : iL 4294967295 = cF := rfl
      have lG : iL (-4294967296) = ~~~cF := by decide
      have f := fin2 (v := (0, (BitVec.ofInt 64 (fI w) &&& cF) ||| (w2 &&& ~~~cF))) okSV_0
      have ev : enR (0, (BitVec.ofInt 64 (fI w) &&& cF) ||| (w2 &&& ~~~cF)) = (iL (fI w) &&& cF) ||| (w2 &&& ~~~cF) := enG_0
      rw [ev] at f
      refine ⟨_, ?_, f⟩
      have g3' : ∀ x : B64, gI (sL υ 146 (rpR c (dR w)) x) 80 123 = cP c + 1 := fun x => g3
      rw [M557, e557_0, T332]
      simp only [Option.getD_some, Option.bind_some, Option.toList_some, Option.toList_none, List.cons_append, List.nil_append, and_self, and_true, true_and, false_and, and_false, ite_self, not_true_eq_false, not_false_eq_true, reduceIte, Nat.reduceEqDiff, ab_I, ab_L, ab_R, ao_I, ao_L, ao_R, gL_sL, gI_sI, gR_sR, gI_sL, gI_sR, gL_sI, gL_sR, gR_sI, gR_sL, e557_4, w7, if_true, w1, w1', ← hυ, T334, s0, e557_76, n1, not_false_eq_true, e557_85, t333, e557_96, td, h123]
      rw [e557_99]
      simp only [Option.getD_some, Option.bind_some, Option.toList_some, Option.toList_none, List.cons_append, List.nil_append, and_self, and_true, true_and, false_and, and_false, ite_self, not_true_eq_false, not_false_eq_true, reduceIte, Nat.reduceEqDiff, ab_I, ab_L, ab_R, ao_I, ao_L, ao_R, gL_sL, gI_sI, gR_sR, gI_sL, gI_sR, gL_sI, gL_sR, gR_sI, gR_sL, if_true, T336, e557_122, g_83, wp, b2.1, b2.2, Int.toNat_natCast, hw2', lF, lG]
      rw [e557_150]
      simp only [Option.getD_some, Option.bind_some, Option.toList_some, Option.toList_none, List.cons_append, List.nil_append, and_self, and_true, true_and, false_and, and_false, ite_self, not_true_eq_false, not_false_eq_true, reduceIte, Nat.reduceEqDiff, ab_I, ab_L, ab_R, ao_I, ao_L, ao_R, gL_sL, gI_sI, gR_sR, gI_sL, gI_sR, gL_sI, gL_sR, gR_sI, gR_sL, g_146, bD.1, bD.2, Int.toNat_natCast, g3', w2']
      exact RR_q (ls := [some (mR (some 80)), some (mL w), none, some (mI (fOp w)), some (mI (cP c)), none]) e557_190 (by repeat (first | exact lq_nil | refine lq_cons (Or.inr rfl) ?_ | refine lq_cons (Or.inl rfl) ?_))
    · rw [if_neg s0] at e
      cases e
      have q := o2.resolve_left s0
      obtain ⟨s1, i0, i7, _⟩ := q
      have sA : -2147483648 ≤ 8 + fI w ∧ 8 + fI w < 2147483648 := by omega
      have ea : iL (1048576 * (8 + fI w) + 524288 + 0) = enR (8 + (fI w).toNat, 0#64) := by
        show _ = enG adR (8 + (fI w).toNat, 0#64)
        rw [enG_n (show ¬ 8 + (fI w).toNat = 0 by omega), show (0#64 : B64) = BitVec.ofNat 64 0 from rfl, ad_i]
        exact congrArg iL (by omega)
      have kv : okSV (8 + (fI w).toNat, 0#64) := ⟨fun _ => rfl, fun _ _ => rfl, by show 8 + (fI w).toNat < 400; omega⟩
      have w8' : w32 (8 + fI w) = 8 + fI w := w32_i sA.1 sA.2
      have w2' : w32 (cP c + 1 + 1) = cP c + 2 := by rw [w32_i P2.1 P2.2, e12]
      have n1 : ¬ (1 : Int) = 0 := by decide
      refine ⟨_, ?_, fin2 kv⟩
      have g3' : ∀ x : B64, gI (sL υ 146 (rpR c (dR w)) x) 80 123 = cP c + 1 := fun x => g3
      rw [M557, e557_0, T332]
      simp only [Option.getD_some, Option.bind_some, Option.toList_some, Option.toList_none, List.cons_append, List.nil_append, and_self, and_true, true_and, false_and, and_false, ite_self, not_true_eq_false, not_false_eq_true, reduceIte, Nat.reduceEqDiff, ab_I, ab_L, ab_R, ao_I, ao_L, ao_R, gL_sL, gI_sI, gR_sR, gI_sL, gI_sR, gL_sI, gL_sR, gR_sI, gR_sL, e557_4, w7, if_true, w1, w1', ← hυ, T334, s1, e557_76, not_true_eq_false, if_false, e557_85, t333, e557_96, td, h123]
      rw [e557_99]
      simp only [Option.getD_some, Option.bind_some, Option.toList_some, Option.toList_none, List.cons_append, List.nil_append, and_self, and_true, true_and, false_and, and_false, ite_self, not_true_eq_false, not_false_eq_true, reduceIte, Nat.reduceEqDiff, ab_I, ab_L, ab_R, ao_I, ao_L, ao_R, gL_sL, gI_sI, gR_sR, gI_sL, gI_sR, gL_sI, gL_sR, gR_sI, gR_sL, n1, if_false, T336, e557_110, w8', T549, e557_115, ea]
      rw [e557_150]
      simp only [Option.getD_some, Option.bind_some, Option.toList_some, Option.toList_none, List.cons_append, List.nil_append, and_self, and_true, true_and, false_and, and_false, ite_self, not_true_eq_false, not_false_eq_true, reduceIte, Nat.reduceEqDiff, ab_I, ab_L, ab_R, ao_I, ao_L, ao_R, gL_sL, gI_sI, gR_sR, gI_sL, gI_sR, gL_sI, gL_sR, gR_sI, gR_sL, g_146, bD.1, bD.2, Int.toNat_natCast, g3', w2']
      exact RR_q (ls := [some (mR (some 80)), some (mL w), none, some (mI (fOp w)), some (mI (cP c)), none]) e557_190 (by repeat (first | exact lq_nil | refine lq_cons (Or.inr rfl) ?_ | refine lq_cons (Or.inl rfl) ?_))
  · rw [if_neg l0] at e
    have opl := okp l0
    have opl' := opl
    unfold okPl at opl'
    rw [if_neg l0] at opl'
    by_cases l47 : fL w = 4 ∨ fL w = 7
    · rw [if_pos l47] at e opl'
      cases ea : alT c w with
      | none =>
        rw [ea] at e
        cases e
      | some v =>
        rw [ea] at e
        cases e
        obtain ⟨t, kv⟩ := T558 ru l47 opl' ea
        refine ⟨_, ?_, fin0 opl'.1.1 kv⟩
        rw [M557, e557_0, T332]
        rcases l47 with l | l
        · rw [l] at w7
          simp only [Option.getD_some, Option.bind_some, Option.toList_some, Option.toList_none, List.cons_append, List.nil_append, and_self, and_true, true_and, false_and, and_false, ite_self, not_true_eq_false, not_false_eq_true, reduceIte, Nat.reduceEqDiff, ab_I, ab_L, ab_R, ao_I, ao_L, ao_R, gL_sL, gI_sI, gR_sR, gI_sL, gI_sR, gL_sI, gL_sR, gR_sI, gR_sL, e557_4, w7, Int.reduceEq, if_false, if_true, w1, w1', ← hυ, t, e557_170, e557_190]
        · rw [l] at w7
          simp only [Option.getD_some, Option.bind_some, Option.toList_some, Option.toList_none, List.cons_append, List.nil_append, and_self, and_true, true_and, false_and, and_false, ite_self, not_true_eq_false, not_false_eq_true, reduceIte, Nat.reduceEqDiff, ab_I, ab_L, ab_R, ao_I, ao_L, ao_R, gL_sL, gI_sI, gR_sR, gI_sL, gI_sR, gL_sI, gL_sR, gR_sI, gR_sL, e557_4, w7, Int.reduceEq, if_false, if_true, w1, w1', ← hυ, t, e557_170, e557_190]
    · rw [if_neg l47] at e opl'
      by_cases l56 : fL w = 5 ∨ fL w = 6
      · rw [if_pos l56] at e opl'
        -- all of this goes through one method
        have act : ∀ τ, MM 559 [mR (some 80), mL w, mI (fOp w), mI (cP c)] υ = some (none, τ) → MM 557 [mR (some 80), mL w] σ = some (none, τ) := fun τ t => by
          rw [M557, e557_0, T332]
          rcases l56 with l | l
          · rw [l] at w7
            simp only [Option.getD_some, Option.bind_some, Option.toList_some, Option.toList_none, List.cons_append, List.nil_append, and_self, and_true, true_and, false_and, and_false, ite_self, not_true_eq_false, not_false_eq_true, reduceIte, Nat.reduceEqDiff, ab_I, ab_L, ab_R, ao_I, ao_L, ao_R, gL_sL, gI_sI, gR_sR, gI_sL, gI_sR, gL_sI, gL_sR, gR_sI, gR_sL, e557_4, w7, Int.reduceEq, if_false, if_true, w1, w1', ← hυ, h123, t, e557_181, e557_190]
          · rw [l] at w7
            simp only [Option.getD_some, Option.bind_some, Option.toList_some, Option.toList_none, List.cons_append, List.nil_append, and_self, and_true, true_and, false_and, and_false, ite_self, not_true_eq_false, not_false_eq_true, reduceIte, Nat.reduceEqDiff, ab_I, ab_L, ab_R, ao_I, ao_L, ao_R, gL_sL, gI_sI, gR_sR, gI_sL, gI_sR, gL_sI, gL_sR, gR_sI, gR_sL, e557_4, w7, Int.reduceEq, if_false, if_true, w1, w1', ← hυ, h123, t, e557_181, e557_190]
        have goq : ∀ i, RelR υ c → stq σ (sI υ 80 123 i) c 0 (goT c i) := fun i _ => by
          refine ⟨mvR_t mu (mvR_I (by omega)), Or.inl ⟨rfl, RelR_i ru (Or.inl rfl), ?_, ?_, ?_⟩⟩
          · rw [gI_sI, if_pos ⟨rfl, rfl⟩]
            rfl
          · rw [gI_sI, if_neg (by omega)]
            exact gu _ _ (by omega)
          · rw [gI_sI, if_neg (by omega)]
            exact gu _ _ (by omega)
        by_cases j56 : fOp w = 5 ∨ fOp w = 6
        · rw [if_pos j56] at e
          cases e
          have gg := hg l56 (by omega) (by omega)
          exact ⟨_, act _ (jp_R hi gg j56), goq _ ru⟩
        · rw [if_neg j56] at e
          by_cases j149 : fOp w = 149
          · rw [if_pos j149] at e
            obtain ⟨τ, t, rel, mv, q, gs⟩ := ex_R ru hi j149 e
            refine ⟨τ, act _ t, mvR_t mu mv, ?_⟩
            have g2 : gI τ 80 122 = gI σ 80 122 := (gs 122 (by decide) (by decide) (by decide)).trans (gu _ _ (by omega))
            rcases q with ⟨k0, q1, q2⟩ | ⟨k1, q1, q2, q3⟩
            · exact Or.inl ⟨k0, rel, q1, g2, q2.trans (gu _ _ (by omega))⟩
            · rw [q2] at rel
              exact Or.inr (Or.inl ⟨k1, rel, q2, q1, g2, q3⟩)
          · rw [if_neg j149] at e
            by_cases j133 : fOp w = 133
            · rw [if_pos j133] at e
              by_cases s1 : fS w = 1
              · rw [if_pos s1] at e
                by_cases n4 : cN c = 4
                · rw [if_pos n4] at e
                  cases e
                · rw [if_neg n4] at e
                  cases e
                  have gg := hg l56 j149 (fun _ => s1)
                  obtain ⟨τ, t, rel, mv, q3, gs⟩ := en_R ru hi gg j133 s1 n4
                  rw [g3] at rel
                  exact ⟨τ, act _ t, mvR_t mu mv, Or.inl ⟨rfl, rel, q3, (gs 122 (by decide) (by decide)).trans (gu _ _ (by omega)), (gs 124 (by decide) (by decide)).trans (gu _ _ (by omega))⟩⟩
              · rw [if_neg s1] at e
                obtain ⟨τ, t, mv, q⟩ := ch_R ru hI EU u54 hi j133 s1 g3 (hpG_T e).1
                refine ⟨τ, act _ t, mvR_t mu mv, ?_⟩
                have u2 := gu 80 122 (by omega)
                have u4 := gu 80 124 (by omega)
                rcases q with ⟨k0, q1, q2, q3, q4⟩ | ⟨k1, q1, q2, q3, q4, q5⟩ | ⟨k2, q1, q2, q3, q4, q5, q6⟩
                · exact Or.inl ⟨k0, q1, q2, q3.trans u2, q4.trans u4⟩
                · exact Or.inr (Or.inl ⟨k1, q1, q2, q3, q4.trans u2, q5⟩)
                · exact Or.inr (Or.inr ⟨k2, q1, q2, q3, q4, q5.trans u4, q6⟩)
            · rw [if_neg j133] at e
              unfold okJmp at opl'
              rw [if_neg (fun z => j56 (Or.inl z)), if_neg (fun z => j56 (Or.inr z)), if_neg j133, if_neg j149] at opl'
              obtain ⟨⟨ic, d10⟩, sr⟩ := opl'
              have s10 : rgt w → fS w ≤ 10 := fun r => by
                rw [if_pos r] at sr
                exact sr.1
              have gg := hg l56 j149 (fun z => absurd z j133)
              have hc := isCmp_of ic
              have t := cm_R ru hi gg l56 ⟨fun z => j56 (Or.inl z), fun z => j56 (Or.inr z), j149, j133⟩ hc d10 s10
              cases eb : cmT c w with
              | none =>
                rw [eb] at e
                cases e
              | some b =>
                rw [eb] at e
                cases e
                have hx := hX b eb hc d10 s10
                have sd : sdR υ c w = sdR σ c w := by
                  unfold sdR
                  rw [lu]
                rw [lu, sd, hx] at t
                cases b with
                | true =>
                  rw [if_pos rfl] at t ⊢
                  exact ⟨_, act _ t, goq _ ru⟩
                | false =>
                  rw [if_neg (show ¬ (false = true) by decide)] at t ⊢
                  refine ⟨_, act _ t, mu, Or.inl ⟨rfl, ru, g3, gu _ _ (by omega), gu _ _ (by omega)⟩⟩
      · rw [if_neg l56] at e opl'
        by_cases l1 : fL w = 1
        · rw [if_pos l1] at e
          cases el : ldT RB RH c w with
          | none =>
            rw [el] at e
            cases e
          | some v =>
            rw [el] at e
            cases e
            have pk := hI.2.2.2.1.1
            have p5 : gI υ 80 105 = wg (cW c) 80 105 := wld_g (RelR_wld ru) (by omega)
            obtain ⟨t, kv⟩ := ld_R ru (by omega) opl' l1 el
            have d9 : fD w ≤ 9 := by
              unfold okMem at opl'
              rw [if_pos l1] at opl'
              exact opl'.2.1
            refine ⟨_, ?_, fin0 d9 kv⟩
            rw [l1] at w7
            rw [M557, e557_0, T332]
            simp only [Option.getD_some, Option.bind_some, Option.toList_some, Option.toList_none, List.cons_append, List.nil_append, and_self, and_true, true_and, false_and, and_false, ite_self, not_true_eq_false, not_false_eq_true, reduceIte, Nat.reduceEqDiff, ab_I, ab_L, ab_R, ao_I, ao_L, ao_R, gL_sL, gI_sI, gR_sR, gI_sL, gI_sR, gL_sI, gL_sR, gR_sI, gR_sL, e557_4, w7, Int.reduceEq, if_false, if_true, w1, w1', ← hυ, t, e557_190]
        · rw [if_neg l1] at e
          have l23 : fL w = 2 ∨ fL w = 3 := by
            have : fL w = fOp w % 8 := rfl
            omega
          have act : ∀ τ, MM 560 [mR (some 80), mL w, mI (fOp w)] υ = some (none, τ) → MM 557 [mR (some 80), mL w] σ = some (none, τ) := fun τ t => by
            rw [M557, e557_0, T332]
            rcases l23 with l | l
            · rw [l] at w7
              simp only [Option.getD_some, Option.bind_some, Option.toList_some, Option.toList_none, List.cons_append, List.nil_append, and_self, and_true, true_and, false_and, and_false, ite_self, not_true_eq_false, not_false_eq_true, reduceIte, Nat.reduceEqDiff, ab_I, ab_L, ab_R, ao_I, ao_L, ao_R, gL_sL, gI_sI, gR_sR, gI_sL, gI_sR, gL_sI, gL_sR, gR_sI, gR_sL, e557_4, w7, Int.reduceEq, if_false, if_true, w1, w1', ← hυ, t, e557_190]
            · rw [l] at w7
              simp only [Option.getD_some, Option.bind_some, Option.toList_some, Option.toList_none, List.cons_append, List.nil_append, and_self, and_true, true_and, false_and, and_false, ite_self, not_true_eq_false, not_false_eq_true, reduceIte, Nat.reduceEqDiff, ab_I, ab_L, ab_R, ao_I, ao_L, ao_R, gL_sL, gI_sI, gR_sR, gI_sL, gI_sR, gL_sI, gL_sR, gR_sI, gR_sL, e557_4, w7, Int.reduceEq, if_false, if_true, w1, w1', ← hυ, t, e557_190]
          by_cases sw : fL w = 3 ∧ fM w = 192
          · rw [if_pos sw] at e
            cases es : swT RB c w with
            | none =>
              rw [es] at e
              cases e
            | some c1 =>
              rw [es] at e
              cases e
              obtain ⟨τ, t, rel, gs, mv⟩ := sw_R ru opl' sw.1 sw.2 es
              exact ⟨τ, act _ t, mvR_t mu mv, Or.inl ⟨rfl, rel, (gs 123).trans g3, (gs 122).trans (gu _ _ (by omega)), (gs 124).trans (gu _ _ (by omega))⟩⟩
          · rw [if_neg sw] at e
            have m96 : fM w = 96 := by
              unfold okMem at opl'
              rw [if_neg l1] at opl'
              by_cases l2 : fL w = 2
              · rw [if_pos l2] at opl'
                exact opl'.1
              · rw [if_neg l2] at opl'
                by_cases m : fM w = 96
                · exact m
                · rw [if_neg m] at opl'
                  have : fM w = fOp w / 32 * 32 := rfl
                  exfalso
                  omega
            cases es : stoT RB RH c w with
            | none =>
              rw [es] at e
              cases e
            | some c1 =>
              rw [es] at e
              cases e
              obtain ⟨τ, t, rel, gs, mv⟩ := st_R ru opl' l23 m96 es
              exact ⟨τ, act _ t, mvR_t mu mv, Or.inl ⟨rfl, rel, (gs 123 (by decide)).trans g3, (gs 122 (by decide)).trans (gu _ _ (by omega)), (gs 124 (by decide)).trans (gu _ _ (by omega))⟩⟩
end RACT
