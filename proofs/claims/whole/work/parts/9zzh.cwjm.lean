/-! ===== the class's plain code: jumps, FUNCTION, EXIT ===== -/
section CWJM
variable {σ τ ρ υ ω : MS} {w w2 X Y v : B64} {m n f i j s t N K P Q d e x' o b : Nat} {a x y p g : Int} {c c' : TC WR} {φ ψ : Nat → Nat} {st : Nat → Int} {L : List Q4} {u : SV} {fl : Bool} {k : Nat}
theorem bm_R (r : RelC τ φ (p, cN c, cR c, cS c, (fun f => st (cB c f).toNat), cW c)) : RelC τ φ (bm st c) := RelC_g r
/-- JA -/
theorem w1_G (h : RelC σ φ (bm st c)) (W : wdC σ s K N st P [(27 + 131072, g, 0, 0)]) : ∃ τ, trs 1 σ τ ∧ stq1 st σ τ φ (cP c, cN c, cR c, cS c, cB c, RT (cW c)) 0 (goT (cP c, cN c, cR c, cS c, cB c, RT (cW c)) g) := by
  obtain ⟨⟨C, s8, K3⟩, h17, h9, h8, hN, A⟩ := W
  have r1 : RelC (advC σ P true) φ (cP (bm st c), cN c, cR c, cS c, cB (bm st c), RT (cW c)) := ct_C h
  have ef : finQ st ((27 : Int) + 131072, g, 0, 0) = (27, st g.toNat, 0, 0) := rfl
  rw [List.map_cons, ef] at A
  have hx : P < N := hN
  have t := T128g C h8 hx A.1
  refine ⟨_, trs_1 C h17 h9 t, mvC_t adv_mv (mvC_I (by omega)), Or.inl ⟨rfl, bm_R (p := st g.toNat) (RelC_g (RelC_i r1)), ?_, ?_⟩⟩
  · rw [gI_sI, if_pos ⟨rfl, rfl⟩]
    rfl
  · rw [gI_sI, if_neg (by omega), adv_I (by omega)]
    exact h9
/-- EXIT -/
theorem w1_E (h : RelC σ φ (bm st c)) (hI : invW (cW c)) (W : wdC σ s K N st P [(29, 0, 0, 0)]) (e : exT (cP c, cN c, cR c, cS c, cB c, RT (cW c)) = some (k, c')) : ∃ τ, trs 1 σ τ ∧ stq1 st σ τ φ (cP c, cN c, cR c, cS c, cB c, RT (cW c)) k c' := by
  obtain ⟨⟨C, s8, K3⟩, h17, h9, h8, hN, A⟩ := W
  have r1 : RelC (advC σ P true) φ (cP (bm st c), cN c, cR c, cS c, cB (bm st c), RT (cW c)) := ct_C h
  have ef : finQ st ((29 : Int), 0, 0, 0) = (29, 0, 0, 0) := rfl
  rw [List.map_cons, ef] at A
  have hx : P < N := hN
  have e1 : ∃ c2, exT (cP (bm st c), cN c, cR c, cS c, cB (bm st c), RT (cW c)) = some (k, c2) ∧ (k = 0 → c2 = bm st c') ∧ (k = 1 → c2 = (cP (bm st c), cN c, cR c, cS c, cB (bm st c), RT (cW c)) ∧ c' = (cP c, cN c, cR c, cS c, cB c, RT (cW c))) := by
    unfold exT at e ⊢
    by_cases z : ¬ (rdR (cP c, cN c, cR c, cS c, cB c, RT (cW c)) 0).1 = 0
    · rw [if_pos z] at e
      cases e
    · have z' : ¬ ¬ (rdR (cP (bm st c), cN c, cR c, cS c, cB (bm st c), RT (cW c)) 0).1 = 0 := z
      rw [if_neg z] at e
      rw [if_neg z']
      by_cases q : cN c = 1
      · rw [if_pos q] at e ⊢
        cases e
        exact ⟨_, rfl, fun y => absurd y (by decide), fun _ => ⟨rfl, rfl⟩⟩
      · rw [if_neg q] at e ⊢
        cases e
        exact ⟨_, rfl, fun _ => rfl, fun y => absurd y (by decide)⟩
  obtain ⟨c2, e2, k0, k1⟩ := e1
  obtain ⟨τ, t, mv, rel, q⟩ := ex_C r1 (inv_ch hI) e2
  have t2 := T128b C h8 hx A.1 t
  refine ⟨τ, trs_1 C h17 h9 t2, mvC_t adv_mv mv, ?_⟩
  have a9 : gI (advC σ P true) 71 9 = 0 := (adv_I (by omega)).trans h9
  rcases q with ⟨z, q8, q9⟩ | ⟨z, q9, qc, q0⟩
  · rw [k0 z] at rel q8
    exact Or.inl ⟨z, rel, q8, q9.trans a9⟩
  · obtain ⟨z1, z2⟩ := k1 z
    rw [qc] at rel
    exact Or.inr (Or.inl ⟨z, rel, z2, q9, q0⟩)
/-- FUNCTION -/
theorem w1_F (h : RelC σ φ (bm st c)) (hI : invW (cW c)) (W : wdC σ s K N st P [(28 + 131072, g, 0, 0)]) (n4 : ¬ cN c = 4) (nx : st (cP c + 1).toNat = ((P + 1 : Nat) : Int)) : ∃ τ, trs 1 σ τ ∧ stq1 st σ τ φ (cP c, cN c, cR c, cS c, cB c, RT (cW c)) 0 (enT (cP c, cN c, cR c, cS c, cB c, RT (cW c)) g (cP c + 1)) := by
  obtain ⟨⟨C, s8, K3⟩, h17, h9, h8, hN, A⟩ := W
  have r1 : RelC (advC σ P true) φ (cP (bm st c), cN c, cR c, cS c, cB (bm st c), RT (cW c)) := ct_C h
  have ef : finQ st ((28 : Int) + 131072, g, 0, 0) = (28, st g.toNat, 0, 0) := rfl
  rw [List.map_cons, ef] at A
  have hx : P < N := hN
  obtain ⟨τ, t, rel, mv, q8, q9⟩ := fn_C (g := st g.toNat) r1 (inv_ch hI) n4
  rw [adv_8, ← nx] at rel
  have t2 := T128f C h8 hx A.1 t
  have a9 : gI (advC σ P true) 71 9 = 0 := (adv_I (by omega)).trans h9
  refine ⟨τ, trs_1 C h17 h9 t2, mvC_t adv_mv mv, Or.inl ⟨rfl, ?_, q8, q9.trans a9⟩⟩
  have eb : bm st (enT (cP c, cN c, cR c, cS c, cB c, RT (cW c)) g (cP c + 1)) = enT (cP (bm st c), cN c, cR c, cS c, cB (bm st c), RT (cW c)) (st g.toNat) (st (cP c + 1).toNat) := by
    have ef : (fun f => st (if f = cN c then cP c + 1 else cB c f).toNat) = (fun f => if f = cN c then st (cP c + 1).toNat else st (cB c f).toNat) := funext fun f => by
      by_cases z : f = cN c
      · rw [if_pos z, if_pos z]
      · rw [if_neg z, if_neg z]
    show (st g.toNat, cN c + 1, _, _, (fun f => st (if f = cN c then cP c + 1 else cB c f).toNat), RT (cW c)) = _
    rw [ef]
    rfl
  rw [eb]
  exact rel
end CWJM
