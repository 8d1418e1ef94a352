/-! ===== the class's runs, way 1: begin and end ===== -/
/-- what a run of way 1 moves, seen from outside -/
def rmvT (σ ρ : MS) : Prop := (∀ k z, k < 153 → ¬ movC k z → ¬ (k = 71 ∧ z = 11) → ¬ (k = 72 ∨ k = 75 ∨ k = 74 ∨ k = 17) → gI ρ k z = gI σ k z) ∧ (∀ k z, k < 153 → ¬ (k = 76 ∨ k = 77) → ¬ (k = 71 ∧ (z = 13 ∨ z = 14 ∨ z = 16)) → gL ρ k z = gL σ k z) ∧ (∀ k z, k < 153 → ¬ k = 73 → ¬ (k = 72 ∧ z = 3) → gR ρ k z = gR σ k z) ∧ (∀ k, 153 ≤ k → k < nC σ → (∀ s, s < 8 → ¬ gR σ 73 s = some k) → (∀ z, gI ρ k z = gI σ k z ∧ gL ρ k z = gL σ k z ∧ gR ρ k z = gR σ k z) ∧ kd ρ k = kd σ k) ∧ nC σ ≤ nC ρ ∧ ∀ s k, s < 8 → gR ρ 73 s = some k → gR σ 73 s = some k ∨ nC σ ≤ k
section CRN3
variable {B0 T0 : Int} {σ τ ρ υ ω : MS} {m f i j s t N K P Q d e x x' o b p z : Nat} {x3 : B64} {x1 y : Int} {c c' c1 r : TC WR} {φ ψ : Nat → Nat} {st : Nat → Int} {E : EV} {W : WR}
theorem rt_R (e : τ.2.2 = σ.2.2) : (∀ k z, gR τ k z = gR σ k z) ∧ (∀ k, kd τ k = kd σ k) ∧ nC τ = nC σ := by
  refine ⟨fun k z => ?_, fun k => ?_, ?_⟩
  · unfold gR
    rw [e]
  · unfold kd
    rw [e]
  · unfold nC
    rw [e]
theorem cdD_r (e : τ.2.2 = σ.2.2) (D : cdD B0 T0 σ) : cdD B0 T0 τ := by
  obtain ⟨r1, r2, r3⟩ := rt_R e
  refine ⟨fun s K hs h => ?_, fun s t K hs ht h1 h2 => ?_, by
    have cc : ccn τ = ccn σ := cnt_ext 8 fun s _ => by rw [r1]
    have ts : tS τ = tS σ := by
      unfold tS
      rw [e]
    rw [r3, cc, ts]
    exact D.2.2⟩
  · rw [r2, r3]
    rw [r1] at h
    exact D.1 s K hs h
  · rw [r1] at h1 h2
    exact D.2.1 s t K hs ht h1 h2
theorem tuC_r (e : τ.2.2 = σ.2.2) (gi : ∀ k z, (k = 15 ∨ k = 16 ∨ k = 17 ∨ k = 74 ∨ 153 ≤ k) → gI τ k z = gI σ k z) (gl : ∀ k z, 7 ≤ k → k ≤ 14 → gL τ k z = gL σ k z) (h : tuC σ) : tuC τ := fun s hs h1 => by
  obtain ⟨r1, r2, r3⟩ := rt_R e
  have l : (fun j => gL τ (7 + s) j) = (fun j => gL σ (7 + s) j) := funext fun j => gl _ _ (by omega) (by omega)
  rw [gi 17 s (by omega)] at h1
  rw [l, gi 15 s (by omega)]
  obtain ⟨K, st, h1, h2, h3, h4, h5, h6⟩ := h s hs h1
  exact ⟨K, st, (r1 _ _).trans h1, (r2 _).trans h2, h3, (gi _ _ (by omega)).trans h4, h5, fun x hx => ⟨(h6 x hx).1, codQ_g (fun z => gi K z (by omega)) (h6 x hx).2⟩⟩
theorem T179p {s0 : Nat} (C : CEO σ E) (hE : okE E) (hR : okRow E) (tf : taF σ) (sl : slC σ) (wo : wldO σ W) (hI : invW W) (hb : bOk σ) (U : tuC σ) (D : cdD B0 T0 σ) (hs : s0 < 8) (h16 : ¬ gI σ 16 s0 = 0) (hN : 6 * N < 1000000) (nc : nC σ + N + 1 < 1000000) (e : rnT RB RH E RT (prC σ) sloW N (s0 : Int) (st0 (bgW W (s0 : Int))) = some r) (h0 : ∀ i, i < 64 → RB.2.2.2.1 (cW r) i = false) :
    ∃ τ, MM 179 [mR (some 71), mI (s0 : Int), mI 1] σ = some (some (mI (lI ((cW r).2.2 - gL σ 71 16))), τ) ∧ wldO τ (edW (cW r)) ∧ gL τ 71 14 = (rdR r 0).2 ∧ rmvT σ τ ∧ tuC τ ∧ cdD B0 T0 τ := by
  obtain ⟨ρ, t, rel, g9, g8, g7, mv, bρ⟩ := B179 (s0 := s0) (x2 := 1) wo hI hb
  obtain ⟨n15, S, fr, okp, g0⟩ := tf s0 hs h16
  have nρ := (mv_R mv).2.2
  obtain ⟨ρ', K', st', b1, b2, b3, b4, b5, b6, b7, b8, b9, b10, b11, b12⟩ := ent_1 (x1 := (s0 : Int)) (x3 := gL σ 71 16) (j := 0) tf sl (mvT_m mv) (tuC_m mv U) (cdD_m mv D) bρ rel (bgW_inv hI) g9 g8 g7 hs h16 (by omega) (by decide)
  obtain ⟨τ, j', ψ, st2, a1, a2, a3, a4, a5, a6, a7, a8, a9, a10⟩ := L179p (x1 := (s0 : Int)) (x3 := gL σ 71 16) C hE hR tf sl N s0 (st0 (bgW W (s0 : Int))) r ρ' (fun _ => 0) 0 K' st' S b2 b6 b5 (bgW_inv hI) b3 b4 b7 b8 b9 hs b10 n15 b11 fr okp ⟨Nat.le_refl 1, g0, fun f f1 f2 => by
    have f2 : f < 1 := f2
    omega⟩ (by omega) (by omega) e
  obtain ⟨υ, d1, d2, d3, d4, d5, d6⟩ := E179 (r := bm st2 r) (x1 := (s0 : Int)) (x2 := 1) (x3 := gL σ 71 16) (i := (j' : Int)) a2 a4 (fun i hi => Decidable.byContradiction fun z => by
    have := h0 i hi
    have y : RB.2.2.2.1 (cW r) i = true := decide_eq_true z
    rw [y] at this
    cases this)
  obtain ⟨r1, r2, r3⟩ := rt_R d6
  refine ⟨υ, ?_, d2, d3.trans a9, ⟨fun k z h1 h2 h3 h4 => ?_, fun k z h1 h2 h3 => ?_, fun k z h1 h2 h3 => ?_, fun k h1 h2 h3 => ?_, ?_, fun s k h1 h2 => ?_⟩, tuC_r d6 (fun k z h => d4 k z (by omega)) (fun k z h1 h2 => d5 k z (by omega)) a6, cdD_r d6 a7⟩
  · have b1 : RR (lkB tb179) (B179_53, [some (mR (some 71)), some (mI (s0 : Int)), some (mI 1), some (mL (gL σ 71 16)), none, some (mI 0)], [], ρ) = _ := b1
    have j3 : ¬ (1000000 : Int) ≤ (j' : Int) := by omega
    have n1 : ¬ (1 : Int) = 0 := by decide
    rw [t, b1, a1, e179_53, if_neg j3, a8, if_pos n1]
    exact d1
  · rw [d4 k z (by omega)]
    exact a5.1 k z h1 h2 h4
  · rw [d5 k z (by omega)]
    exact a5.2.1 k z h1 h2 (by omega)
  · rw [r1]
    exact a5.2.2.1 k z h1 h2 h3
  · obtain ⟨p1, p2⟩ := a5.2.2.2.1 k h1 h2 h3
    refine ⟨fun z => ⟨?_, ?_, ?_⟩, ?_⟩
    · rw [d4 k z (by omega)]
      exact (p1 z).1
    · rw [d5 k z (by omega)]
      exact (p1 z).2.1
    · rw [r1]
      exact (p1 z).2.2
    · rw [r2]
      exact p2
  · rw [r3]
    exact a5.2.2.2.2.1
  · rw [r1] at h2
    exact a5.2.2.2.2.2 s k h1 h2
end CRN3
