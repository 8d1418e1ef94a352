/-! ===== the class's plain code: helpers ===== -/
section CWHP
variable {σ τ ρ υ ω : MS} {w w2 X Y v : B64} {m n f i j s t N K P Q d e x x' o b r : Nat} {a y p q h n' nn : Int} {g : Nat → B64} {c c' c1 : TC WR} {φ ψ : Nat → Nat} {st k : Nat → Int} {L : List Q4} {u : SV} {fl : Bool} {l : List B64} {E : EV} {z : Nat}
theorem hpT_m : hpT RB RH E (chg p k c) h n' = (hpT RB RH E c h nn).map (fun q => (q.1, chg n' k q.2)) := by
  unfold hpT
  by_cases a1 : h = 1 ∨ h = 2 ∨ h = 3
  · rw [if_pos a1, if_pos a1]
    by_cases m : ¬ isMap (rdR c 1)
    · have m' : ¬ isMap (rdR (chg p k c) 1) := m
      rw [if_pos m, if_pos m']
      rfl
    · have m' : ¬ ¬ isMap (rdR (chg p k c) 1) := m
      rw [if_neg m, if_neg m', rdL_c]
      have e1 : rdL RB c (rdR (chg p k c) 2).1 (rdR (chg p k c) 2).2.toNat (E.2.1 (mapT (rdR (chg p k c) 1)).toNat).toNat = rdL RB c (rdR c 2).1 (rdR c 2).2.toNat (E.2.1 (mapT (rdR c 1)).toNat).toNat := rfl
      rw [e1]
      cases rdL RB c (rdR c 2).1 (rdR c 2).2.toNat (E.2.1 (mapT (rdR c 1)).toNat).toNat with
      | none => rfl
      | some kk =>
        dsimp only
        by_cases h1 : h = 1
        · rw [if_pos h1, if_pos h1]
          have e2 : RH.2.2.1 (cW (chg p k c)) (mapT (rdR (chg p k c) 1)) kk = RH.2.2.1 (cW c) (mapT (rdR c 1)) kk := rfl
          rw [e2]
          cases RH.2.2.1 (cW c) (mapT (rdR c 1)) kk with
          | none => rfl
          | some j => rfl
        · rw [if_neg h1, if_neg h1]
          by_cases h3 : h = 3
          · rw [if_pos h3, if_pos h3]
            rfl
          · rw [if_neg h3, if_neg h3, rdL_c]
            have e3 : rdL RB c (rdR (chg p k c) 3).1 (rdR (chg p k c) 3).2.toNat (E.2.2 (mapT (rdR (chg p k c) 1)).toNat).toNat = rdL RB c (rdR c 3).1 (rdR c 3).2.toNat (E.2.2 (mapT (rdR c 1)).toNat).toNat := rfl
            rw [e3]
            cases rdL RB c (rdR c 3).1 (rdR c 3).2.toNat (E.2.2 (mapT (rdR c 1)).toNat).toNat with
            | none => rfl
            | some v =>
              dsimp only
              by_cases q4 : ¬ (rdR c 4).1 = 0
              · have q4' : ¬ (rdR (chg p k c) 4).1 = 0 := q4
                rw [if_pos q4, if_pos q4']
                rfl
              · have q4' : ¬ ¬ (rdR (chg p k c) 4).1 = 0 := q4
                rw [if_neg q4, if_neg q4']
                rfl
  · rw [if_neg a1, if_neg a1]
    by_cases h5 : h = 5
    · rw [if_pos h5, if_pos h5]
      rfl
    · rw [if_neg h5, if_neg h5]
      by_cases h6 : h = 6
      · rw [if_pos h6, if_pos h6]
        by_cases q : ¬ (rdR c 2).1 = 0 ∨ ¬ (1 ≤ (rdR c 2).2.toNat ∧ (rdR c 2).2.toNat ≤ 64)
        · have q' : ¬ (rdR (chg p k c) 2).1 = 0 ∨ ¬ (1 ≤ (rdR (chg p k c) 2).2.toNat ∧ (rdR (chg p k c) 2).2.toNat ≤ 64) := q
          rw [if_pos q, if_pos q']
          rfl
        · have q' : ¬ (¬ (rdR (chg p k c) 2).1 = 0 ∨ ¬ (1 ≤ (rdR (chg p k c) 2).2.toNat ∧ (rdR (chg p k c) 2).2.toNat ≤ 64)) := q
          rw [if_neg q, if_neg q', rdL_c]
          have e1 : rdL RB c (rdR (chg p k c) 1).1 (rdR (chg p k c) 1).2.toNat (rdR (chg p k c) 2).2.toNat = rdL RB c (rdR c 1).1 (rdR c 1).2.toNat (rdR c 2).2.toNat := rfl
          rw [e1]
          cases rdL RB c (rdR c 1).1 (rdR c 1).2.toNat (rdR c 2).2.toNat with
          | none => rfl
          | some l => rfl
      · rw [if_neg h6, if_neg h6]
        by_cases h7 : h = 7
        · rw [if_pos h7, if_pos h7]
          rfl
        · rw [if_neg h7, if_neg h7]
          by_cases h12 : h = 12
          · rw [if_pos h12, if_pos h12]
            by_cases q : ¬ (rdR c 1) = (1, 0#64) ∨ ¬ isMap (rdR c 2) ∨ ¬ (rdR c 3).1 = 0 ∨ ¬ cN c = 1
            · have q' : ¬ (rdR (chg p k c) 1) = (1, 0#64) ∨ ¬ isMap (rdR (chg p k c) 2) ∨ ¬ (rdR (chg p k c) 3).1 = 0 ∨ ¬ cN (chg p k c) = 1 := q
              rw [if_pos q, if_pos q']
              rfl
            · have q' : ¬ (¬ (rdR (chg p k c) 1) = (1, 0#64) ∨ ¬ isMap (rdR (chg p k c) 2) ∨ ¬ (rdR (chg p k c) 3).1 = 0 ∨ ¬ cN (chg p k c) = 1) := q
              rw [if_neg q, if_neg q']
              have e1 : RH.2.2.2.2.2.2.2.2.1 (cW (chg p k c)) (mapT (rdR (chg p k c) 2)) (rdR (chg p k c) 3).2 = RH.2.2.2.2.2.2.2.2.1 (cW c) (mapT (rdR c 2)) (rdR c 3).2 := rfl
              rw [e1]
              cases RH.2.2.2.2.2.2.2.2.1 (cW c) (mapT (rdR c 2)) (rdR c 3).2 with
              | none => rfl
              | some v => rfl
          · rw [if_neg h12, if_neg h12]
            by_cases h26 : h = 26
            · rw [if_pos h26, if_pos h26]
              by_cases q : ¬ (rdR c 2).1 = 0 ∨ ¬ (2 ≤ (rdR c 3).1 ∧ (rdR c 3).1 ≤ 5) ∨ ¬ ((rdR c 4).1 = 0 ∧ 1 ≤ (rdR c 4).2.toNat ∧ (rdR c 4).2.toNat ≤ 128)
              · have q' : ¬ (rdR (chg p k c) 2).1 = 0 ∨ ¬ (2 ≤ (rdR (chg p k c) 3).1 ∧ (rdR (chg p k c) 3).1 ≤ 5) ∨ ¬ ((rdR (chg p k c) 4).1 = 0 ∧ 1 ≤ (rdR (chg p k c) 4).2.toNat ∧ (rdR (chg p k c) 4).2.toNat ≤ 128) := q
                rw [if_pos q, if_pos q']
                rfl
              · have q' : ¬ (¬ (rdR (chg p k c) 2).1 = 0 ∨ ¬ (2 ≤ (rdR (chg p k c) 3).1 ∧ (rdR (chg p k c) 3).1 ≤ 5) ∨ ¬ ((rdR (chg p k c) 4).1 = 0 ∧ 1 ≤ (rdR (chg p k c) 4).2.toNat ∧ (rdR (chg p k c) 4).2.toNat ≤ 128)) := q
                rw [if_neg q, if_neg q', wrL_m]
                have e1 : wrL RB c (rdR (chg p k c) 3).1 (rdR (chg p k c) 3).2.toNat (RH.2.2.2.2.2.2.2.2.2.1 (cW (chg p k c)) (rdR (chg p k c) 2).2 (rdR (chg p k c) 4).2.toNat).1 = wrL RB c (rdR c 3).1 (rdR c 3).2.toNat (RH.2.2.2.2.2.2.2.2.2.1 (cW c) (rdR c 2).2 (rdR c 4).2.toNat).1 := rfl
                rw [e1]
                cases wrL RB c (rdR c 3).1 (rdR c 3).2.toNat (RH.2.2.2.2.2.2.2.2.2.1 (cW c) (rdR c 2).2 (rdR c 4).2.toNat).1 with
                | none => rfl
                | some c2 => rfl
            · rw [if_neg h26, if_neg h26]
              by_cases h44 : h = 44
              · rw [if_pos h44, if_pos h44]
                by_cases q : ¬ (rdR c 2).1 = 0
                · have q' : ¬ (rdR (chg p k c) 2).1 = 0 := q
                  rw [if_pos q, if_pos q']
                  rfl
                · have q' : ¬ ¬ (rdR (chg p k c) 2).1 = 0 := q
                  rw [if_neg q, if_neg q']
                  rfl
              · rw [if_neg h44, if_neg h44]
                by_cases h131 : h = 131
                · rw [if_pos h131, if_pos h131]
                  by_cases q : ¬ isMap (rdR c 1) ∨ ¬ ((rdR c 2).1 = 0 ∧ 1 ≤ (rdR c 2).2.toInt ∧ (rdR c 2).2.toInt ≤ 64)
                  · have q' : ¬ isMap (rdR (chg p k c) 1) ∨ ¬ ((rdR (chg p k c) 2).1 = 0 ∧ 1 ≤ (rdR (chg p k c) 2).2.toInt ∧ (rdR (chg p k c) 2).2.toInt ≤ 64) := q
                    rw [if_pos q, if_pos q']
                    rfl
                  · have q' : ¬ (¬ isMap (rdR (chg p k c) 1) ∨ ¬ ((rdR (chg p k c) 2).1 = 0 ∧ 1 ≤ (rdR (chg p k c) 2).2.toInt ∧ (rdR (chg p k c) 2).2.toInt ≤ 64)) := q
                    rw [if_neg q, if_neg q']
                    rfl
                · rw [if_neg h131, if_neg h131]
                  by_cases h13 : h = 132 ∨ h = 133
                  · rw [if_pos h13, if_pos h13]
                    by_cases q : ¬ ((300 ≤ (rdR c 1).1 ∧ (rdR c 1).1 ≤ 363) ∧ (rdR c 1).2 = 0#64) ∨ ¬ RB.2.2.2.1 (cW c) ((rdR c 1).1 - 300) = true
                    · have q' : ¬ ((300 ≤ (rdR (chg p k c) 1).1 ∧ (rdR (chg p k c) 1).1 ≤ 363) ∧ (rdR (chg p k c) 1).2 = 0#64) ∨ ¬ RB.2.2.2.1 (cW (chg p k c)) ((rdR (chg p k c) 1).1 - 300) = true := q
                      rw [if_pos q, if_pos q']
                      rfl
                    · have q' : ¬ (¬ ((300 ≤ (rdR (chg p k c) 1).1 ∧ (rdR (chg p k c) 1).1 ≤ 363) ∧ (rdR (chg p k c) 1).2 = 0#64) ∨ ¬ RB.2.2.2.1 (cW (chg p k c)) ((rdR (chg p k c) 1).1 - 300) = true) := q
                      rw [if_neg q, if_neg q']
                      rfl
                  · rw [if_neg h13, if_neg h13]
                    rfl
/-- a helper -/
theorem w1_H (r0 : RelC σ φ (bm st c)) (hb : bOk σ) (hI : invW (cW c)) (Ce : CEO σ E) (hE : okE E) (hR : okRow E) (W : wdC σ s K N st P [(30, h, 0, 0)]) (nx : st (cP c + 1).toNat = ((P + 1 : Nat) : Int)) (e : hpG RB RH E (cP c, cN c, cR c, cS c, cB c, RT (cW c)) h (cP c + 1) = some (z, c')) : ∃ τ ψ, trs 1 σ τ ∧ stq1 st σ τ ψ (cP c, cN c, cR c, cS c, cB c, RT (cW c)) z c' := by
  obtain ⟨⟨C, s8, K3⟩, h17, h9, h8, hN, A⟩ := W
  obtain ⟨cb, hcb⟩ : ∃ cb : TC WR, cb = (cP (bm st c), cN c, cR c, cS c, cB (bm st c), RT (cW c)) := ⟨_, rfl⟩
  have r1 : RelC (advC σ P true) φ cb := by
    rw [hcb]
    exact ct_C r0
  have hIb : invW (cW cb) := by
    rw [hcb]
    exact inv_ch hI
  have bu : bOk (advC σ P true) := bOk_w hb (fun y => absurd (show (26 : Nat) = 1 from y) (by decide))
  have C1 : CEO (advC σ P true) E := fun m hm => by
    rw [adv_I (by omega), adv_I (by omega), adv_I (by omega), adv_I (by omega)]
    exact Ce m hm
  have ef : finQ st ((30 : Int), h, 0, 0) = (30, h, 0, 0) := rfl
  rw [List.map_cons, ef] at A
  have hx : P < N := hN
  obtain ⟨eh, hk⟩ := hpG_T e
  have hk' : hpK RB E cb h := by
    rw [hcb]
    exact hk
  have e1 : hpT RB RH E cb h (st (cP c + 1).toNat) = some (z, chg (st (cP c + 1).toNat) (cB (bm st c)) c') := by
    have := hpT_m (p := cP (bm st c)) (k := cB (bm st c)) (c := (cP c, cN c, cR c, cS c, cB c, RT (cW c))) (E := E) (h := h) (n' := st (cP c + 1).toNat) (nn := cP c + 1)
    rw [eh] at this
    rw [hcb]
    exact this
  have e2 : c' = chg (cP c + 1) (cB c) c' := by
    have := hpT_m (p := cP c) (k := cB c) (c := (cP c, cN c, cR c, cS c, cB c, RT (cW c))) (E := E) (h := h) (n' := cP c + 1) (nn := cP c + 1)
    have hc : chg (cP c) (cB c) (cP c, cN c, cR c, cS c, cB c, RT (cW c)) = (cP c, cN c, cR c, cS c, cB c, RT (cW c)) := rfl
    rw [hc, eh] at this
    exact (Prod.mk.inj (Option.some.inj this)).2
  have qP : cP c' = cP c + 1 := by rw [e2]; rfl
  have qB : cB c' = cB c := by rw [e2]; rfl
  have q := hp_allC r1 bu hIb C1 hE hR hk' e1
  have k02 : z = 0 ∨ z = 2 := by
    obtain ⟨_, _, _, _, _, _, q⟩ := q
    rcases q with q | q
    · exact Or.inl q.1
    · exact Or.inr q.1
  obtain ⟨v, τ, ψ, t, sq⟩ := hpC_0 q (by rw [adv_8, nx])
  have t2 := T128h C h8 hx A.1 t
  have a9 : gI (advC σ P true) 71 9 = 0 := (adv_I (by omega)).trans h9
  refine ⟨sL τ 76 0 v, ψ, trs_1 C h17 h9 t2, mvC_t adv_mv sq.1, ?_⟩
  rcases sq.2 with ⟨k0, q1, q2, q3⟩ | ⟨k1, _⟩ | ⟨k2, q1, q2, q3, q4, q5⟩
  · refine Or.inl ⟨k0, bm_R (p := st (cP c + 1).toNat) ?_, ?_, q3.trans a9⟩
    · have eB : (fun f => st (cB c' f).toNat) = cB (bm st c) := funext fun f => by
        rw [qB]
        rfl
      rw [eB]
      exact q1
    · rw [qP]
      exact q2
  · exact absurd k1 (by omega)
  · refine Or.inr (Or.inr ⟨k2, ?_, q2, q3, q4.trans a9, ?_⟩)
    · rw [hcb] at q1
      exact q1
    · rw [hcb] at q5
      exact q5
end CWHP
