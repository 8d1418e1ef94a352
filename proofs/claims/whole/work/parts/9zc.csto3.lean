/-! ===== the class's runs: stores, whole ===== -/
section CSTO3
variable {σ τ ρ : MS} {c c' : TC WR} {W V : WR} {w w2 x A : B64} {v : SV} {a r f b k n o s p m d : Nat} {l : List B64} {y g i : Int} {φ : Nat → Nat}
theorem st_C (h : RelC σ φ c) (hI : invW (cW c)) (hw : okMem w) (h23 : fL w = 2 ∨ fL w = 3) (m96 : fM w = 96) (e : stoT RB RH c w = some c') : ∃ τ, MM 189 [mR (some 71), mL (gL σ 76 (dR w) + iL (fO w)), mL (stvC σ w), mI ((bytN w : Nat) : Int)] σ = some (none, τ) ∧ RelC τ φ c' ∧ mvC σ τ ∧ ∀ k s, ¬ k = 27 → gI τ k s = gI σ k s := by
  have hw' := hw
  unfold okMem at hw'
  rw [if_neg (by omega)] at hw'
  have ds : fD w ≤ 10 ∧ fS w ≤ 10 := by
    by_cases h2 : fL w = 2
    · rw [if_pos h2] at hw'
      exact ⟨hw'.2.1, by omega⟩
    · rw [if_neg h2, if_pos m96] at hw'
      exact ⟨hw'.1, hw'.2.1⟩
  have fr := fld_rng w
  have d10 : dR w ≤ 10 := by show (fD w).toNat ≤ 10; omega
  have s10 : sRr w ≤ 10 := by show (fS w).toNat ≤ 10; omega
  have b8 := byt_1 w
  have pk := hI.2.2.2.1.1.2
  have N4 := h.1.1
  have lv := h.2.2.2.2.1
  have fz : ∀ (p : Nat) (l : List Int) (k s : Nat), ¬ k = 27 → gI (wzS σ 27 p l) k s = gI σ k s := fun p l k s z => by rw [wzS_g, if_neg (fun q => z q.1)]
  unfold stoT at e
  obtain ⟨sv, hsv⟩ : ∃ sv : SV, sv = (if fL w = 3 then rdR c (sRr w) else (0, BitVec.ofInt 64 (fI w))) := ⟨_, rfl⟩
  have e : (if (rdR c (dR w)).1 = 1 then (if bytN w = 4 ∧ fO w = 12 ∧ sv.1 = 0 then some (cP c, cN c, cR c, cS c, cB c, RH.2.1 (cW c) sv.2) else none)
      else if sv.1 = 0 then wrL RB c (rdR c (dR w)).1 (offN (rdR c (dR w)).2 (fO w)).toNat (bysN sv.2 (bytN w))
      else if ((2 ≤ (rdR c (dR w)).1 ∧ (rdR c (dR w)).1 ≤ 5) ∧ bytN w = 8) ∧ ((offN (rdR c (dR w)).2 (fO w)).toNat % 8 = 0 ∧ (offN (rdR c (dR w)).2 (fO w)).toNat < 128) ∧ ¬ sv.1 = 6 then some (wrP c ((rdR c (dR w)).1 - 2) (offN (rdR c (dR w)).2 (fO w)).toNat sv)
      else none) = some c' := by
    rw [hsv]
    exact e
  have sV : ¬ sv.1 = 6 → stvC σ w = enK φ sv ∧ okSV sv := fun z => by
    unfold stvC
    rw [hsv] at z ⊢
    by_cases h3 : fL w = 3
    · rw [if_pos h3] at z ⊢
      rw [if_pos h3]
      exact rd_C h s10 z
    · rw [if_neg h3] at z ⊢
      rw [if_neg h3]
      exact ⟨enG_0.symm, okSV_0⟩
  have sL_ : 300 ≤ sv.1 → sv.1 ≤ 363 ∧ ¬ wg (cW c) 152 (sv.1 - 300) = 0 := fun z => by
    rw [hsv] at z ⊢
    by_cases h3 : fL w = 3
    · rw [if_pos h3] at z ⊢
      exact rg_liv lv N4.2 z
    · rw [if_neg h3] at z
      exact absurd z (show ¬ 300 ≤ (0 : Nat) by decide)
  by_cases c1 : (rdR c (dR w)).1 = 1
  · rw [if_pos c1] at e
    by_cases q : bytN w = 4 ∧ fO w = 12 ∧ sv.1 = 0
    · rw [if_pos q] at e
      have e := Option.some.inj e
      obtain ⟨ra, rk⟩ := rd_C h d10 (by omega)
      have r0 := rk.1 c1
      have ea := ea_C (y := fO w) h d10 (by omega) (by omega) (by omega)
      have e12 : (offN (rdR c (dR w)).2 (fO w)).toNat = 12 := by
        rw [r0, q.2.1]
        rfl
      rw [c1, e12] at ea
      have ea : gL σ 76 (dR w) + iL (fO w) = iL (1048576 + ((780 : Nat) : Int)) := ea
      obtain ⟨sv1, sk⟩ := sV (by omega)
      have sv2 : stvC σ w = sv.2 := sv1.trans (enG_z q.2.2)
      have t := T189 (σ := σ) (x := sv.2) (n := 4) (p := 780) (by decide) (by decide)
      rw [ea, sv2, q.1]
      refine ⟨_, t, ?_, mvC_z, fz _ _⟩
      rw [← e]
      exact mk_C h pk
    · rw [if_neg q] at e
      cases e
  · rw [if_neg c1] at e
    by_cases q0 : sv.1 = 0
    · rw [if_pos q0] at e
      obtain ⟨sv1, sk⟩ := sV (by omega)
      have sv2 : stvC σ w = sv.2 := sv1.trans (enG_z q0)
      obtain ⟨ob, pb, rel⟩ := wrL_C _ _ σ c h hI (bys_lt sv.2 (bytN w)).2 e
      rw [bys_len] at ob pb
      have o0 := ob 0 (by omega)
      have ea := ea_C (y := fO w) h d10 (by omega) (by omega) (by omega)
      have t := T189 (σ := σ) (x := sv.2) (n := bytN w) (p := plC φ (rdR c (dR w)).1 + (offN (rdR c (dR w)).2 (fO w)).toNat) b8.2 (pb b8.1)
      rw [ea, sv2]
      exact ⟨_, t, rel, mvC_z, fz _ _⟩
    · rw [if_neg q0] at e
      by_cases q : ((2 ≤ (rdR c (dR w)).1 ∧ (rdR c (dR w)).1 ≤ 5) ∧ bytN w = 8) ∧ ((offN (rdR c (dR w)).2 (fO w)).toNat % 8 = 0 ∧ (offN (rdR c (dR w)).2 (fO w)).toNat < 128) ∧ ¬ sv.1 = 6
      · rw [if_pos q] at e
        have e := Option.some.inj e
        obtain ⟨⟨⟨o2, o5⟩, n8⟩, ⟨al, lt⟩, n6⟩ := q
        obtain ⟨sv1, sk⟩ := sV n6
        have ea := ea_C (y := fO w) h d10 (by omega) (by omega) (by omega)
        rw [pl_s ⟨o2, o5⟩] at ea
        have wr := wrP_C (v := sv) (f := (rdR c (dR w)).1 - 2) (b := (offN (rdR c (dR w)).2 (fO w)).toNat) h pk (by omega) (by omega) n6 sk sL_
        have t := T189 (σ := σ) (x := enK φ sv) (n := 8) (p := 256 + 128 * ((rdR c (dR w)).1 - 2) + (offN (rdR c (dR w)).2 (fO w)).toNat) (by decide) (by omega)
        rw [ea, sv1, n8]
        exact ⟨_, t, by rw [← e]; exact wr, mvC_z, fz _ _⟩
      · rw [if_neg q] at e
        cases e
end CSTO3
