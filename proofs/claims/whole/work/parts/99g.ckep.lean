/-! ===== the class's walk: a state is kept, its cell ===== -/
section CKEP
variable {τ σ ρ : MS} {cf : Nat → Nat} {N k j hc c : Nat} {S : ST} {C : Int}
theorem st_kd (h : ∀ q, c ≤ q → q < c + 4 → kd τ q = kd σ q) (a : isSt σ c) : isSt τ c := by
  unfold isSt at *
  rw [h c (by omega) (by omega), h (c + 1 + 0) (by omega) (by omega), h (c + 1 + 1) (by omega) (by omega), h (c + 1 + 2) (by omega) (by omega)]
  exact a
/-- but for the cell c and one place of kept, all is as it was -/
def knq (τ σ : MS) (c N : Nat) : Prop := (∀ q s, ¬ (c ≤ q ∧ q < c + 4) → gI τ q s = gI σ q s) ∧ (∀ q s, ¬ (c ≤ q ∧ q < c + 4) → gL τ q s = gL σ q s) ∧ (∀ q s, ¬ (c ≤ q ∧ q < c + 4) → ¬ (q = 58 ∧ s = N) → gR τ q s = gR σ q s) ∧ ∀ q, ¬ (c ≤ q ∧ q < c + 4) → kd τ q = kd σ q
theorem L38a (po : POOL σ) (pn : PCN σ C) (hN : N < 250) (g2 : gI σ 51 2 = (N : Int)) : ∃ ρ c, MM 38 [mR (some 39)] σ = RR (lkB tb38) (B38_29, [some (mR (some 39)), some (mI (N : Int)), none], [], ρ) ∧ (gR ρ 58 N = some c ∧ isSt ρ c ∧ isCl c) ∧ (POOL ρ ∧ PCN ρ C ∧ pgr ρ σ) ∧ knq ρ σ c N ∧ (∀ s, s < 312 → ¬ s = 2 + N → slR ρ s = slR σ s) ∧ (c = nC σ ∨ gR σ 58 N = some c) := by
  have l6 := pn_lt pn
  have g51 : Option.isSome (some 51) = true ∧ ab σ 3 51 2 := by rw [g_51]; decide
  have g58 : Option.isSome (some 58) = true ∧ ab σ 5 58 (N : Int) := by rw [g_58]; omega
  have i2 : gI σ 51 (Int.toNat 2) = (N : Int) := g2
  cases e : gR σ 58 N with
  | some c =>
    have sl : slR σ (2 + N) = some c := (sR_kp hN).trans e
    have q := po.1 _ _ (by omega) sl
    refine ⟨σ, c, ?_, ⟨e, q⟩, ⟨po, pn, pgr_r σ⟩, ⟨fun _ _ _ => rfl, fun _ _ _ => rfl, fun _ _ _ _ => rfl, fun _ _ => rfl⟩, fun _ _ _ => rfl, Or.inr rfl⟩
    rw [M38, e38_0, if_pos g51, i2, if_pos g58, Int.toNat_natCast, e, if_pos (show Option.isSome (some c) = true from rfl)]
  | none =>
    obtain ⟨ρ, hρ⟩ : ∃ ρ, ρ = sR (alS σ) 58 N (some (nC σ)) := ⟨_, rfl⟩
    have kr : ∀ q, ¬ (nC σ ≤ q ∧ q < nC σ + 4) → kd ρ q = kd σ q := fun q h => by
      rw [hρ]
      exact al_kd h
    have p2 := pn.2.1
    have rr : ∀ q s, ¬ (nC σ ≤ q ∧ q < nC σ + 4) → ¬ (q = 58 ∧ s = N) → gR ρ q s = gR σ q s := fun q s h1 h2 => by
      rw [hρ, gR_sR, if_neg h2, al_R, if_neg h1]
    have rn : gR ρ 58 N = some (nC σ) := by rw [hρ, gR_sR, if_pos ⟨rfl, rfl⟩]
    have sn : isSt ρ (nC σ) := by
      rw [hρ]
      exact al_st p2 l6
    have cl : isCl (nC σ) := Or.inr (Or.inr p2)
    have so : ∀ s, s < 312 → ¬ s = 2 + N → slR ρ s = slR σ s := fun s hs hn => by
      unfold slR
      by_cases s0 : s = 0
      · rw [if_pos s0, if_pos s0]
        exact rr _ _ (by omega) (by omega)
      · rw [if_neg s0, if_neg s0]
        by_cases s1 : s = 1
        · rw [if_pos s1, if_pos s1]
          exact rr _ _ (by omega) (by omega)
        · rw [if_neg s1, if_neg s1]
          by_cases s2 : s < 252
          · rw [if_pos s2, if_pos s2]
            exact rr _ _ (by omega) (by omega)
          · rw [if_neg s2, if_neg s2]
            exact rr _ _ (by omega) (by omega)
    have sN : slR ρ (2 + N) = some (nC σ) := (sR_kp hN).trans rn
    have sN0 : slR σ (2 + N) = none := (sR_kp hN).trans e
    have nr : nC ρ = nC σ + 4 := by rw [hρ]; rfl
    have ct : cnt 312 (fun s => (slR ρ s).isSome) = cnt 312 (fun s => (slR σ s).isSome) + 1 := cnt_upd (k := 2 + N) 312 (by omega) (fun j hj hn => by rw [so j hj hn]) (by show (slR ρ (2 + N)).isSome = true; rw [sN]; rfl) (by show (slR σ (2 + N)).isSome = false; rw [sN0]; rfl)
    refine ⟨ρ, nC σ, ?_, ⟨rn, sn, cl⟩, po_gen (π := fun s => s) (a := 2 + N) po pn (fun s hs => hs) (fun s s' _ _ _ _ z => z) so sN ⟨nr, by rw [hρ]; rfl⟩ kr sn ct, ⟨fun q s h => ?_, fun q s h => ?_, rr, kr⟩, so, Or.inl rfl⟩
    · have gn : Option.isSome (some 58) = true ∧ ab (alS σ) 5 58 (N : Int) := ⟨rfl, by
        have := g58.2
        unfold ab at *
        rw [al_kd (by omega)]
        exact this⟩
      have aq1 : (Option.isSome (some 58) = true ∧ ab (alS σ) 5 58 (N : Int)) ∧ aq (alS σ) 5 (some (nC σ)) := ⟨gn, fun _ => by
        show (kd (alS σ) (nC σ)).1 = 28
        rw [(al_st p2 l6).1]⟩
      rw [M38, e38_0, if_pos g51, i2, if_pos g58, Int.toNat_natCast, e, if_neg (show ¬ Option.isSome (none : Option Nat) = true by decide), if_pos aq1, hρ]
    · rw [hρ]
      show gI (alS σ) q s = gI σ q s
      rw [al_I, if_neg h]
    · rw [hρ]
      show gL (alS σ) q s = gL σ q s
      rw [al_L, if_neg h]
end CKEP
