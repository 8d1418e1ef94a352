/-! ===== the class's runs: loads (session 9, not yet compiled) ===== -/
section CLOD
variable {σ τ ρ : MS} {c c' : TC WR} {W V : WR} {w x A a z : B64} {v : SV} {r f b k n o s p m : Nat} {l : List B64} {y : Int} {φ : Nat → Nat}
theorem leN_b4 (x : B64) : leN (bysN x 4) = x &&& cF := by
  apply BitVec.eq_of_getLsbD_eq
  intro i hi
  have ys : ∀ y ∈ bysN x 4, y.toNat < 256 := fun y hy => by
    obtain ⟨j, _, e⟩ := List.mem_map.mp hy
    rw [← e]
    exact byJ_lt x j
  have l : (bysN x 4).length = 4 := rfl
  have ef : cF.getLsbD i = decide (i < 32) := by
    show Nat.testBit (2 ^ 32 - 1) i = _
    rw [Nat.testBit_two_pow_sub_one]
  rw [BitVec.getLsbD_and, ef]
  by_cases q : i < 32
  · rw [decide_eq_true q, Bool.and_true, leN_bit _ ys i hi (by omega)]
    have g : (bysN x 4).getD (i / 8) 0#64 = byJ x (i / 8) := by
      unfold bysN
      rw [List.getD_eq_getElem?_getD, List.getElem?_map, List.getElem?_range (by omega)]
      rfl
    rw [g, byJ_bit]
    have : i % 8 < 8 := by omega
    rw [show 8 * (i / 8) + i % 8 = i by omega]
    simp [this]
  · rw [decide_eq_false q, Bool.and_false]
    have lt := leN_lt (bysN x 4) (by rw [l]; decide) ys
    rw [l] at lt
    show (leN (bysN x 4)).toNat.testBit i = false
    refine Nat.testBit_lt_two_pow (Nat.lt_of_lt_of_le lt ?_)
    exact Nat.pow_le_pow_right (by decide) (by omega)
/-- four bytes of the room that are a number's -/
theorem ctx4 (h : ∀ b, b < 4 → gI σ 27 (p + b) = kpW (byJ x b)) : leN (rmC σ p 4) = x &&& cF := by
  have e : rmC σ p 4 = bysN x 4 := by
    unfold rmC bysN
    rw [List.range_eq_range']
    rw [show (List.range' p 4) = (List.range' 0 4).map (fun j => p + j) by
      rw [List.map_add_range']
      rfl, List.map_map]
    refine List.map_congr_left fun j hj => ?_
    have hj : j < 4 := by
      have := List.mem_range'_1.mp hj
      omega
    show byW (gI σ 27 (p + j)) = byJ x j
    rw [h j hj, kpW_I (byJ_lt x j)]
  rw [e, leN_b4]
theorem low4 (y : Int) : BitVec.ofInt 64 y &&& cF = BitVec.ofInt 64 (y % 4294967296) := by
  apply BitVec.eq_of_toNat_eq
  rw [BitVec.toNat_and, show cF.toNat = 2 ^ 32 - 1 from rfl, Nat.and_two_pow_sub_one_eq_mod, BitVec.toNat_ofInt, BitVec.toNat_ofInt]
  omega
/-- an address that a register tells -/
theorem ea_C (h : RelC σ φ c) (hr : r ≤ 10) (n6 : ¬ (rdR c r).1 = 6) (n0 : ¬ (rdR c r).1 = 0) (nm : ¬ (8 ≤ (rdR c r).1 ∧ (rdR c r).1 ≤ 15)) : gL σ 76 r + iL y = iL (1048576 + ((plC φ (rdR c r).1 + (offN (rdR c r).2 y).toNat : Nat) : Int)) := by
  obtain ⟨ra, _⟩ := rd_C h hr n6
  rw [ra, ← ad_C nm]
  show enG (adC φ) (rdR c r) + iL y = _
  rw [enG_p n0, BitVec.add_assoc, BitVec.ofNat_toNat, BitVec.setWidth_eq]
  rfl
theorem ld_C (h : RelC σ φ c) (hI : invW (cW c)) (hw : okMem w) (h1 : fL w = 1) (e : ldT RB RH c w = some v) : ∃ z : B64, MM 188 [mR (some 71), mL (gL σ 76 (sRr w) + iL (fO w)), mI ((bytN w : Nat) : Int)] σ = some (some (mL z), σ) ∧ (if fM w = 128 then sxt (8 * bytN w) z else z) = enK φ v ∧ okSV v ∧ (300 ≤ v.1 → v.1 ≤ 363 ∧ ¬ wg (cW c) 152 (v.1 - 300) = 0) := by
  have hw' := hw
  unfold okMem at hw'
  rw [if_pos h1] at hw'
  obtain ⟨hm, hd, hs, hi⟩ := hw'
  have fr := fld_rng w
  have b8 := byt_1 w
  have s10 : sRr w ≤ 10 := by show (fS w).toNat ≤ 10; omega
  have h' := h
  obtain ⟨_, _, st, _, ⟨lv1, lv2⟩, ⟨⟨km, kh, k14⟩, k4, k5, k6, k7, k8, k9, k10, k11⟩⟩ := h'
  have pk := hI.2.2.2.1.1
  unfold ldT at e
  by_cases c1 : (rdR c (sRr w)).1 = 1
  · -- the context
    rw [if_pos c1] at e
    obtain ⟨ra, rk⟩ := rd_C h s10 (by omega)
    have r0 := rk.1 c1
    by_cases q0 : ¬ fM w = 96 ∨ ¬ bytN w = 4
    · rw [if_pos q0] at e
      cases e
    · rw [if_neg q0] at e
      have m96 : fM w = 96 := Decidable.byContradiction fun z => q0 (Or.inl z)
      have n4 : bytN w = 4 := Decidable.byContradiction fun z => q0 (Or.inr z)
      have nx : ∀ x : B64, (if fM w = 128 then sxt (8 * bytN w) x else x) = x := fun x => if_neg (by omega)
      have p1 : plC φ 1 = 768 := rfl
      have at_ : ∀ k : Nat, k < 20 → fO w = (k : Int) → gL σ 76 (sRr w) + iL (fO w) = iL (1048576 + ((768 + k : Nat) : Int)) := fun k hk ek => by
        have := ea_C (y := fO w) h s10 (by omega) (by omega) (by omega)
        rw [this, c1, p1, r0, ek]
        have : (offN 0#64 (k : Int)).toNat = k := by
          show (0#64 + BitVec.ofInt 64 (k : Int)).toNat = k
          rw [BitVec.zero_add, BitVec.ofInt_natCast, BitVec.toNat_ofNat]
          omega
        rw [this]
      have t8 : ∀ k : Nat, k < 17 → MM 188 [mR (some 71), mL (iL (1048576 + ((768 + k : Nat) : Int))), mI ((4 : Nat) : Int)] σ = some (some (mL (leN (rmC σ (768 + k) 4))), σ) := fun k hk => T188 (p := 768 + k) (n := 4) (by omega)
      rw [n4]
      by_cases o0 : fO w = 0
      · rw [if_pos o0] at e
        cases e
        refine ⟨_, by rw [at_ 0 (by decide) o0]; exact t8 0 (by decide), ?_, okSV_p (Or.inr (Or.inr (Or.inl rfl))), fun z => absurd z (by decide)⟩
        have nx := nx (leN (rmC σ (768 + 0) 4))
        rw [n4] at nx
        rw [nx, ctx4 (fun b hb => k9.1 b hb)]
        show _ = enG (adC φ) (280, 0#64)
        rw [enG_n (by decide), show (0#64 : B64) = BitVec.ofNat 64 0 from rfl, ad_C (by decide), pl_p]
        decide
      · rw [if_neg o0] at e
        by_cases o4 : fO w = 4
        · rw [if_pos o4] at e
          cases e
          refine ⟨_, by rw [at_ 4 (by decide) o4]; exact t8 4 (by decide), ?_, okSV_p (Or.inr (Or.inr (Or.inl rfl))), fun z => absurd z (show ¬ 300 ≤ (280 : Nat) by decide)⟩
          have nx := nx (leN (rmC σ (768 + 4) 4))
          rw [n4] at nx
          rw [nx, ctx4 (fun b hb => k9.2.1 b hb)]
          show BitVec.ofInt 64 (1048576 + wg (cW c) 80 105) &&& cF = _
          rw [low4]
          show _ = enG (adC φ) (280, BitVec.ofNat 64 (RB.1 (cW c)))
          rw [enG_n (by decide), ad_C (by decide)]
          refine congrArg iL ?_
          have : RB.1 (cW c) = min (wg (cW c) 80 105).toNat 256 := rfl
          rw [this, pl_p]
          omega
        · rw [if_neg o4] at e
          by_cases o8 : fO w = 8 ∨ fO w = 12 ∨ fO w = 16
          · rw [if_pos o8] at e
            cases e
            refine ⟨leN (rmC σ (768 + (fO w).toNat) 4), ?_, ?_, okSV_0, fun z => absurd z (by show ¬ 300 ≤ 0; decide)⟩
            · rw [at_ (fO w).toNat (by omega) (by omega)]
              exact t8 (fO w).toNat (by omega)
            · have nx := nx (leN (rmC σ (768 + (fO w).toNat) 4))
              rw [n4] at nx
              rw [nx]
              show _ = enG (adC φ) (0, RH.1 (cW c) (fO w))
              rw [enG_0]
              show _ = BitVec.ofInt 64 ((if fO w = 8 then wg (cW c) 80 105 else if fO w = 12 then wg (cW c) 80 106 else wg (cW c) 80 107) % 4294967296)
              rcases o8 with q | q | q
              · rw [if_pos q, q]
                rw [show 768 + (8 : Int).toNat = 776 from rfl, ctx4 (fun b hb => k9.2.2 b hb)]
                exact low4 _
              · rw [if_neg (by omega), if_pos q, q]
                rw [show 768 + (12 : Int).toNat = 780 from rfl, ctx4 (fun b hb => k10.1 b hb)]
                exact low4 _
              · rw [if_neg (by omega), if_neg (by omega), q]
                rw [show 768 + (16 : Int).toNat = 784 from rfl, ctx4 (fun b hb => k10.2.1 b hb)]
                exact low4 _
          · rw [if_neg o8] at e
            cases e
  · rw [if_neg c1] at e
    by_cases c2 : (2 ≤ (rdR c (sRr w)).1 ∧ (rdR c (sRr w)).1 ≤ 5) ∧ (bytN w = 8 ∧ (offN (rdR c (sRr w)).2 (fO w)).toNat % 8 = 0 ∧ (offN (rdR c (sRr w)).2 (fO w)).toNat < 128) ∧ (cS c ((rdR c (sRr w)).1 - 2) (offN (rdR c (sRr w)).2 (fO w)).toNat).1 = 2
    · rw [if_pos c2] at e
      obtain ⟨⟨o2, o5⟩, ⟨n8, al, lt⟩, tg⟩ := c2
      by_cases wp : isWp c ((rdR c (sRr w)).1 - 2) (offN (rdR c (sRr w)).2 (fO w)).toNat
      · rw [if_pos wp] at e
        have e := Option.some.inj e
        have ea := ea_C (y := fO w) h s10 (by omega) (by omega) (by omega)
        have nm : ¬ fM w = 128 := fun z => by
          rcases hm with q | q
          · omega
          · exact q.2 (byt_8 n8)
        rw [ea, n8]
        generalize (offN (rdR c (sRr w)).2 (fO w)).toNat = B at *
        have each : ∀ j, j < 8 → byW (gI σ 27 (plC φ (rdR c (sRr w)).1 + B + j)) = byJ (enK φ v) j ∧ okSV v := fun j hj => by
          have m := (st ((rdR c (sRr w)).1 - 2) (B + j) (by omega) (by omega)).2
          rw [wp j hj] at m
          have m := m (by show 2 ≤ 2 + j; omega) (by show 2 + j ≤ 9; omega)
          have m1 : byW (gI σ 27 (256 + 128 * ((rdR c (sRr w)).1 - 2) + (B + j))) = byJ (enK φ (cS c ((rdR c (sRr w)).1 - 2) B).2) (2 + j - 2) := m.1
          rw [e, show 2 + j - 2 = j by omega] at m1
          refine ⟨?_, ?_⟩
          · rw [pl_s ⟨o2, o5⟩, Nat.add_assoc]
            exact m1
          · have m2 : okSV (cS c ((rdR c (sRr w)).1 - 2) B).2 := m.2.1
            rw [e] at m2
            exact m2
        have el : rmC σ (plC φ (rdR c (sRr w)).1 + B) 8 = bysN (enK φ v) 8 := by
          unfold rmC bysN
          rw [List.range_eq_range']
          rw [show (List.range' (plC φ (rdR c (sRr w)).1 + B) 8) = (List.range' 0 8).map (fun j => plC φ (rdR c (sRr w)).1 + B + j) by
            rw [List.map_add_range']
            rfl, List.map_map]
          refine List.map_congr_left fun j hj => ?_
          have hj : j < 8 := by
            have := List.mem_range'_1.mp hj
            omega
          exact (each j hj).1
        have t := T188 (σ := σ) (p := plC φ (rdR c (sRr w)).1 + B) (n := 8) (by rw [pl_s ⟨o2, o5⟩]; omega)
        rw [el, leN_bys] at t
        refine ⟨_, t, if_neg nm, (each 0 (by decide)).2, fun q => ?_⟩
        have l2 := lv2 ((rdR c (sRr w)).1 - 2) B (by omega)
        rw [← e] at q ⊢
        exact l2 q
      · rw [if_neg wp] at e
        cases e
    · rw [if_neg c2] at e
      cases el : rdL RB c (rdR c (sRr w)).1 (offN (rdR c (sRr w)).2 (fO w)).toNat (bytN w) with
      | none =>
        rw [el] at e
        cases e
      | some l =>
        rw [el] at e
        have e := Option.some.inj e
        obtain ⟨ob, pb, hl⟩ := rdL_C h _ _ _ el
        have o0 := ob 0 (by omega)
        have ea := ea_C (y := fO w) h s10 (by omega) (by omega) (by omega)
        have t := T188 (σ := σ) (p := plC φ (rdR c (sRr w)).1 + (offN (rdR c (sRr w)).2 (fO w)).toNat) (n := bytN w) (pb b8.1)
        rw [← hl] at t
        rw [ea]
        refine ⟨_, t, ?_, ?_, ?_⟩
        · rw [← e]
          exact enG_0.symm
        · rw [← e]
          exact okSV_0
        · rw [← e]
          intro q
          exact absurd q (by show ¬ 300 ≤ 0; decide)
end CLOD
