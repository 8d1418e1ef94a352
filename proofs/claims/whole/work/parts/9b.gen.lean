/-! ===== runs: values as numbers, over any layout of objects ===== -/
/-- a value as a number, its object beginning at bs -/
def enG (bs : Nat → B64) (v : SV) : B64 := if v.1 = 0 then v.2 else bs v.1 + v.2
/-- what is so of values: objects that are one place alone -/
def okSV (v : SV) : Prop := (v.1 = 1 → v.2 = 0#64) ∧ (8 ≤ v.1 → v.1 ≤ 15 → v.2 = 0#64) ∧ v.1 < 400
abbrev okBs (bs : Nat → B64) (o : Nat) : Prop := 524288 ≤ (bs o).toInt ∧ (bs o).toInt < 1099511627776
/-- an operation on numbers as they are -/
def aluX (w a b : B64) : B64 := if fC w = 208 then trnJ (decide (fOp w = 212)) (fI w).toNat a else if wid w then reckA (fC w) (fO w) true a b else reckA (fC w) (fO w) false (a &&& cF) (b &&& cF) &&& cF
section GEN
variable {bs bs' : Nat → B64} {v : SV} {w a b x y : B64} {o : Nat} {W : Type} {c : TC W}
theorem enG_0 {x : B64} : enG bs (0, x) = x := if_pos rfl
theorem enG_n (h : ¬ o = 0) : enG bs (o, x) = bs o + x := if_neg h
theorem enG_z (h : v.1 = 0) : enG bs v = v.2 := if_pos h
theorem enG_p (h : ¬ v.1 = 0) : enG bs v = bs v.1 + v.2 := if_neg h
theorem okSV_0 {x : B64} : okSV (0, x) := ⟨fun z => absurd z (show ¬ (0 : Nat) = 1 by decide), fun z => absurd z (show ¬ 8 ≤ (0 : Nat) by decide), by show 0 < 400; decide⟩
theorem okSV_z (h : v.1 = 0) : okSV v := ⟨fun z => by omega, fun z => by omega, by omega⟩
theorem okSV_p (h : isPt o) : okSV (o, x) := by
  unfold isPt at h
  exact ⟨fun z => by have z : o = 1 := z; omega, fun z1 z2 => by have z1 : 8 ≤ o := z1; have z2 : o ≤ 15 := z2; omega, by show o < 400; omega⟩
theorem okSV_n : okSV nilR := ⟨fun z => absurd z (by decide), fun z => absurd z (by decide), by decide⟩
theorem bs_i (h : okBs bs o) (hx : nearP x) : (bs o + x).toInt = (bs o).toInt + x.toInt := by
  unfold nearP at hx
  rw [BitVec.toInt_add, Int.bmod_eq_of_le (by omega) (by omega)]
theorem nn_N (h : 0 ≤ x.toInt) : (x.toNat : Int) = x.toInt := by
  have e := toInt_c x
  have l := x.isLt
  split at e
  · omega
  · omega
theorem lt_I (h1 : 0 ≤ x.toInt) (h2 : 0 ≤ y.toInt) : (x < y) ↔ x.toInt < y.toInt := by
  have e1 := nn_N h1
  have e2 := nn_N h2
  rw [BitVec.lt_def]
  omega
/-- a result of the machine of places is that of the numbers -/
theorem aluX_g {v : SV} (h : alT c w = some v) (ho : okAlu w) (ha : ¬ (rdR c (dR w)).1 = 6 → a = enG bs (rdR c (dR w)) ∧ okSV (rdR c (dR w))) (hb : ¬ (rgT c w).1 = 6 → b = enG bs (rgT c w) ∧ okSV (rgT c w)) : aluX w a b = enG bs v ∧ okSV v := by
  unfold alT at h
  unfold aluX
  by_cases c208 : fC w = 208
  · rw [if_pos c208] at h ⊢
    by_cases z : (rdR c (dR w)).1 = 0
    · rw [if_pos z] at h
      cases h
      obtain ⟨e, _⟩ := ha (by omega)
      rw [e, enG_z z]
      exact ⟨enG_0.symm, okSV_0⟩
    · rw [if_neg z] at h
      cases h
  · rw [if_neg c208] at h ⊢
    have nc : ¬ fC w = 128 ∨ fC w = 128 := (Decidable.em _).symm
    by_cases c176 : fC w = 176
    · rw [if_pos c176] at h
      rw [c176]
      have r0 : ∀ (wd : Bool) (x y : B64), fO w = 0 → reckA 176 (fO w) wd x y = y := fun wd x y o0 => by
        unfold reckA
        rw [if_neg (by decide), if_pos rfl, if_pos o0]
      have r1 : ∀ (wd : Bool) (x y : B64), ¬ fO w = 0 → reckA 176 (fO w) wd x y = sxt (fO w).toNat y := fun wd x y o0 => by
        unfold reckA
        rw [if_neg (by decide), if_pos rfl, if_neg o0]
      by_cases o0 : wid w ∧ fO w = 0
      · rw [if_pos o0] at h
        by_cases z6 : (rgT c w).1 = 6
        · rw [if_pos z6] at h
          cases h
        · rw [if_neg z6] at h
          cases h
          obtain ⟨e, k⟩ := hb z6
          rw [if_pos o0.1, r0 _ _ _ o0.2]
          exact ⟨e, k⟩
      · rw [if_neg o0] at h
        by_cases z : (rgT c w).1 = 0
        · obtain ⟨e, k⟩ := hb (by omega)
          rw [enG_z z] at e
          rw [if_neg (not_not_intro z)] at h
          by_cases f0 : fO w = 0
          · rw [if_pos f0] at h
            cases h
            rw [if_neg (fun q => o0 ⟨q, f0⟩), r0 _ _ _ f0, e, BitVec.and_assoc, BitVec.and_self]
            exact ⟨enG_0.symm, okSV_0⟩
          · rw [if_neg f0] at h
            by_cases wd : wid w
            · rw [if_pos wd] at h
              cases h
              rw [if_pos wd, r1 _ _ _ f0, e]
              exact ⟨enG_0.symm, okSV_0⟩
            · rw [if_neg wd] at h
              cases h
              rw [if_neg wd, r1 _ _ _ f0, e]
              exact ⟨enG_0.symm, okSV_0⟩
        · rw [if_pos z] at h
          cases h
    · rw [if_neg c176] at h
      by_cases c128 : fC w = 128
      · rw [if_pos c128] at h
        rw [c128]
        have r1 : ∀ (wd : Bool) (x y : B64), reckA 128 (fO w) wd x y = -x := fun wd x y => if_pos rfl
        by_cases z : (rdR c (dR w)).1 = 0
        · rw [if_neg (not_not_intro z)] at h
          obtain ⟨e, _⟩ := ha (by omega)
          rw [enG_z z] at e
          by_cases wd : wid w
          · rw [if_pos wd] at h
            cases h
            rw [if_pos wd, r1, e]
            exact ⟨(BitVec.zero_sub _).symm.trans enG_0.symm, okSV_0⟩
          · rw [if_neg wd] at h
            cases h
            rw [if_neg wd, r1, e, ← BitVec.zero_sub]
            exact ⟨enG_0.symm, okSV_0⟩
        · rw [if_pos z] at h
          cases h
      · rw [if_neg c128] at h
        have rk : ∀ (wd : Bool) (x y : B64), reckA (fC w) (fO w) wd x y = reck (fC w) (fO w) wd x y := fun wd x y => by
          unfold reckA
          rw [if_neg c128, if_neg c176]
        by_cases c1 : (rdR c (dR w)).1 = 0 ∧ (rgT c w).1 = 0
        · rw [if_pos c1] at h
          cases h
          obtain ⟨e1, _⟩ := ha (by omega)
          obtain ⟨e2, _⟩ := hb (by omega)
          rw [enG_z c1.1] at e1
          rw [enG_z c1.2] at e2
          rw [rk, rk, e1, e2]
          exact ⟨enG_0.symm, okSV_0⟩
        · rw [if_neg c1] at h
          by_cases c2 : (wid w ∧ fC w = 0) ∧ isPt (rdR c (dR w)).1 ∧ (rgT c w).1 = 0
          · rw [if_pos c2] at h
            cases h
            obtain ⟨⟨wd, c0⟩, pt, z⟩ := c2
            have pt' := pt
            unfold isPt at pt'
            obtain ⟨e1, _⟩ := ha (by omega)
            obtain ⟨e2, _⟩ := hb (by omega)
            rw [enG_p (by omega)] at e1
            rw [enG_z z] at e2
            rw [if_pos wd, rk, e1, e2, c0, enG_n (by omega)]
            exact ⟨BitVec.add_assoc _ _ _, okSV_p pt⟩
          · rw [if_neg c2] at h
            by_cases c3 : (wid w ∧ fC w = 16) ∧ isPt (rdR c (dR w)).1 ∧ (rgT c w).1 = 0
            · rw [if_pos c3] at h
              cases h
              obtain ⟨⟨wd, c0⟩, pt, z⟩ := c3
              have pt' := pt
              unfold isPt at pt'
              obtain ⟨e1, _⟩ := ha (by omega)
              obtain ⟨e2, _⟩ := hb (by omega)
              rw [enG_p (by omega)] at e1
              rw [enG_z z] at e2
              rw [if_pos wd, rk, e1, e2, c0, enG_n (by omega)]
              refine ⟨?_, okSV_p pt⟩
              show bs (rdR c (dR w)).1 + (rdR c (dR w)).2 - (rgT c w).2 = _
              rw [BitVec.sub_eq_add_neg, BitVec.sub_eq_add_neg, BitVec.add_assoc]
            · rw [if_neg c3] at h
              by_cases c4 : (wid w ∧ fC w = 0) ∧ (rdR c (dR w)).1 = 0 ∧ isPt (rgT c w).1
              · rw [if_pos c4] at h
                cases h
                obtain ⟨⟨wd, c0⟩, z, pt⟩ := c4
                have pt' := pt
                unfold isPt at pt'
                obtain ⟨e1, _⟩ := ha (by omega)
                obtain ⟨e2, _⟩ := hb (by omega)
                rw [enG_z z] at e1
                rw [enG_p (by omega)] at e2
                rw [if_pos wd, rk, e1, e2, c0, enG_n (by omega)]
                refine ⟨?_, okSV_p pt⟩
                show (rdR c (dR w)).2 + (bs (rgT c w).1 + (rgT c w).2) = _
                rw [BitVec.add_comm, BitVec.add_assoc]
              · rw [if_neg c4] at h
                cases h
end GEN
