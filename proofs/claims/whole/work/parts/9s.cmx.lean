/-! ===== runs: comparisons, over any layout of objects; the reference's ===== -/
section GENC
variable {bs bs' : Nat → B64} {v : SV} {w a b x y : B64} {o : Nat} {W : Type} {c : TC W}
/-- a comparison likewise -/
theorem cmpX_g {r : Bool} (hc : isCmp (fC w)) (h : cmT c w = some r) (hb : ∀ o, o = (rdR c (dR w)).1 ∨ o = 280 → ¬ o = 0 → o < 400 → ¬ (8 ≤ o ∧ o ≤ 15) → okBs bs o ∧ ¬ (bs o).toInt = 524288) (hm : ∀ o, 8 ≤ o → o ≤ 15 → ¬ bs o = 0#64) (ha : ¬ (rdR c (dR w)).1 = 6 → a = enG bs (rdR c (dR w)) ∧ okSV (rdR c (dR w))) (hd : rgt w → ¬ (rdR c (sRr w)).1 = 6 → b = enG bs (rdR c (sRr w)) ∧ okSV (rdR c (sRr w))) (hi : ¬ rgt w → b = BitVec.ofInt 64 (fI w)) : cmpW (fC w) (decide (widJ w)) a b = r := by
  unfold cmT at h
  by_cases c1 : (rdR c (dR w)).1 = 0 ∧ (sdT c w).1 = 0
  · rw [if_pos c1] at h
    cases h
    obtain ⟨e1, _⟩ := ha (by omega)
    rw [enG_z c1.1] at e1
    rw [e1]
    by_cases r : rgt w
    · have es : sdT c w = rdR c (sRr w) := if_pos r
      rw [es] at c1 ⊢
      obtain ⟨e2, _⟩ := hd r (by omega)
      rw [enG_z c1.2] at e2
      rw [e2]
    · have es : sdT c w = (0, immJ w) := if_neg r
      rw [es, hi r]
      show _ = cmpW (fC w) (decide (widJ w)) (rdR c (dR w)).2 (immJ w)
      unfold immJ
      by_cases wd : widJ w
      · rw [if_pos wd]
      · rw [if_neg wd, decide_eq_false wd]
        unfold cmpW
        rw [if_neg (by decide), if_neg (by decide), BitVec.and_assoc, BitVec.and_self]
  · rw [if_neg c1] at h
    by_cases c2 : (widJ w ∧ (fC w = 16 ∨ fC w = 80)) ∧ (¬ rgt w ∧ fI w = 0) ∧ ¬ (rdR c (dR w)).1 = 6 ∧ nearP (rdR c (dR w)).2
    · rw [if_pos c2] at h
      cases h
      obtain ⟨⟨wd, cc⟩, ⟨nr, i0⟩, n6, nr2⟩ := c2
      have es : sdT c w = (0, immJ w) := if_neg nr
      have nz : ¬ (rdR c (dR w)).1 = 0 := fun z => c1 ⟨z, by rw [es]⟩
      obtain ⟨e1, k1⟩ := ha n6
      rw [enG_p nz] at e1
      have b0 : b = 0#64 := by rw [hi nr, i0]; rfl
      have a0 : ¬ a = b := by
        rw [e1, b0]
        intro z
        by_cases mp : 8 ≤ (rdR c (dR w)).1 ∧ (rdR c (dR w)).1 ≤ 15
        · rw [k1.2.1 mp.1 mp.2, BitVec.add_zero] at z
          exact hm _ mp.1 mp.2 z
        · obtain ⟨ob, on⟩ := hb _ (Or.inl rfl) nz k1.2.2 mp
          have ei := bs_i ob nr2
          rw [z] at ei
          have : (0#64).toInt = 0 := rfl
          unfold nearP at nr2
          omega
      unfold cmpW
      rw [decide_eq_true wd, if_pos rfl]
      rcases cc with e | e
      · rw [e]
        show decide (a = b) = decide ((16 : Int) = 80)
        rw [decide_eq_false a0]
        rfl
      · rw [e]
        show decide (¬ a = b) = decide ((80 : Int) = 80)
        rw [decide_eq_true a0]
        rfl
    · rw [if_neg c2] at h
      by_cases c3 : ((widJ w ∧ rgt w) ∧ isOrd (fC w)) ∧ ((rdR c (dR w)).1 = 280 ∧ (sdT c w).1 = 280) ∧ nearP (rdR c (dR w)).2 ∧ nearP (sdT c w).2
      · rw [if_pos c3] at h
        cases h
        obtain ⟨⟨⟨wd, r⟩, od⟩, ⟨p1, p2⟩, n1, n2⟩ := c3
        have es : sdT c w = rdR c (sRr w) := if_pos r
        rw [es] at p2 n2 ⊢
        obtain ⟨e1, k1⟩ := ha (by omega)
        obtain ⟨e2, k2⟩ := hd r (by omega)
        rw [enG_p (by omega)] at e1 e2
        rw [p1] at e1
        rw [p2] at e2
        have ob := (hb 280 (Or.inr rfl) (by decide) (by decide) (by decide)).1
        have i1 := bs_i ob n1
        have i2 := bs_i ob n2
        have m1 := n1
        have m2 := n2
        unfold nearP at m1 m2
        have ab : (a < b) ↔ (rdR c (dR w)).2.toInt < (rdR c (sRr w)).2.toInt := by
          rw [e1, e2, lt_I (by omega) (by omega)]
          omega
        have ba : (b < a) ↔ (rdR c (sRr w)).2.toInt < (rdR c (dR w)).2.toInt := by
          rw [e1, e2, lt_I (by omega) (by omega)]
          omega
        have de : ∀ {P Q : Prop} {dP : Decidable P} {dQ : Decidable Q} (h : P ↔ Q), @decide P dP = @decide Q dQ := fun {P Q dP dQ} h => by
          by_cases y : P
          · rw [decide_eq_true y, decide_eq_true (h.mp y)]
          · rw [decide_eq_false y, decide_eq_false (fun z => y (h.mpr z))]
        unfold cmpW
        rw [decide_eq_true wd, if_pos rfl]
        rcases od with e | e | e | e
        · rw [e, if_pos rfl]
          exact de ba
        · rw [e, if_neg (by decide), if_pos rfl]
          exact de (not_congr ab)
        · rw [e, if_neg (by decide), if_neg (by decide), if_pos rfl]
          exact de ab
        · rw [e, if_neg (by decide), if_neg (by decide), if_neg (by decide)]
          exact de (not_congr ba)
      · rw [if_neg c3] at h
        cases h
end GENC
section CMX
variable {σ τ : MS} {c r : TC WR} {W : WR} {x2 : Int} {E : EV}
theorem cmX_ok : cmX := fun σ c w b h e hc hd hs => by
  have fr := fld_rng w
  have d10 : dR w ≤ 10 := by show (fD w).toNat ≤ 10; omega
  have s10 : rgt w → sRr w ≤ 10 := fun r => by
    have := hs r
    show (fS w).toNat ≤ 10
    omega
  refine cmpX_g (bs := adR) (a := gL σ 146 (rpR c (dR w))) (b := sdR σ c w) hc e (fun o _ h0 ho _ => ⟨okBs_R ho, by unfold adR; rw [iLt (by omega) (by omega)]; omega⟩) (fun o h1 h2 z => ?_) (fun z => rd_R h d10 z) (fun r z => ?_) (fun r => ?_)
  · have := okBs_R (o := o) (by omega)
    unfold okBs at this
    rw [z] at this
    have z0 : (0#64).toInt = 0 := rfl
    omega
  · unfold sdR
    rw [if_pos r]
    exact rd_R h (s10 r) z
  · unfold sdR
    rw [if_neg r]
    rfl
end CMX
