/-! ===== the class's walk: a state is kept (not yet compiled) ===== -/
section CKEP2
variable {τ σ ρ : MS} {cf : Nat → Nat} {N k j hc c a : Nat} {S : ST} {C : Int}
/-- what keeping may change: the cell c, here's latest and ahead, the lists of a word, how many are kept; x: who was the last there -/
def kpq (τ σ : MS) (c hc N a : Nat) (l : Option Nat) : Prop := (∀ q s, ¬ (c ≤ q ∧ q < c + 4) → ¬ (q = hc ∧ s = 7) → ¬ (q = 51 ∧ s = 2) → gI τ q s = gI σ q s) ∧ (∀ q s, ¬ (c ≤ q ∧ q < c + 4) → gL τ q s = gL σ q s)
  ∧ (∀ q s, ¬ (c ≤ q ∧ q < c + 4) → ¬ (q = 58 ∧ s = N) → ¬ (q = hc ∧ s = 6) → ¬ (q = 61 ∧ s = a) → (l = none → ¬ (q = 60 ∧ s = a)) → (∀ x, l = some x → ¬ (q = x ∧ s = 8)) → gR τ q s = gR σ q s) ∧ ∀ q, ¬ (c ≤ q ∧ q < c + 4) → kd τ q = kd σ q
theorem T38 (po : POOL σ) (pn : PCN σ C) (hN : N < 250) (g2 : gI σ 51 2 = (N : Int)) (h14 : gR σ 39 14 = some hc) (hS : CSt σ hc S) (F : 1 ≤ sF S ∧ sF S ≤ 4) (hH : (sH S).length ≤ 64) (hl : ∀ x, gR σ hc 6 = some x → ∃ k, k < 250 ∧ ¬ k = N ∧ gR σ 58 k = some x) (ha : a < 200) (g5 : gI σ hc 5 = (a : Int)) {l : Option Nat} (g61 : gR σ 61 a = l) (hl2 : ∀ x, l = some x → ∃ k, k < 250 ∧ ¬ k = N ∧ gR σ 58 k = some x) :
    ∃ c, okc (MM 38 [mR (some 39)] σ) none (fun τ => (gR τ 58 N = some c ∧ isSt τ c ∧ isCl c) ∧ (CSt τ c S ∧ (gI τ c 5 = (a : Int) ∧ gI τ c 7 = gI σ hc 7 ∧ gI τ c 9 = 0 ∧ gI τ c 10 = 0) ∧ gR τ c 6 = gR σ hc 6 ∧ gR τ c 8 = none) ∧ (gR τ hc 6 = some c ∧ gI τ hc 7 = 0 ∧ gI τ 51 2 = ((N + 1 : Nat) : Int)) ∧ (gR τ 61 a = some c ∧ (l = none → gR τ 60 a = some c) ∧ ∀ x, l = some x → gR τ x 8 = some c) ∧ kpq τ σ c hc N a l ∧ (POOL τ ∧ PCN τ C ∧ pgr τ σ) ∧ (∀ s, s < 312 → ¬ s = 2 + N → slR τ s = slR σ s) ∧ ∀ s x, s < 312 → ¬ s = 2 + N → slR σ s = some x → c + 3 < x ∨ x + 3 < c) := by
  obtain ⟨ρ, c, s29, ⟨r58, sc, cc⟩, ⟨poρ, pnρ, pgρ⟩, ⟨n1, n2, n3, n4⟩, so, _⟩ := L38a po pn hN g2
  have hz := po.1 0 hc (by decide) (sR_z.trans h14)
  have ch := hz.2
  have h14ρ : gR ρ 39 14 = some hc := by
    have := so 0 (by decide) (by omega)
    rw [sR_z, sR_z] at this
    exact this.trans h14
  have sh : isSt ρ hc := (poρ.1 0 hc (by decide) (sR_z.trans h14ρ)).1
  have slN : slR ρ (2 + N) = some c := (sR_kp hN).trans r58
  have far : ∀ s x, s < 312 → ¬ s = 2 + N → slR σ s = some x → c + 3 < x ∨ x + 3 < c := fun s x hs hn e => poρ.2 (2 + N) s _ _ (by omega) hs (fun z => hn z.symm) slN ((so s hs hn).trans e)
  have dd := far 0 hc (by decide) (by omega) (sR_z.trans h14)
  have cc' := cc
  unfold isCl at cc'
  have ch' := ch
  unfold isCl at ch'
  -- cells of kept states
  have kx : ∀ x, (∃ k, k < 250 ∧ ¬ k = N ∧ gR σ 58 k = some x) → isSt ρ x ∧ isCl x ∧ (c + 3 < x ∨ x + 3 < c) ∧ ¬ x = hc := fun x e => by
    obtain ⟨k, hk, hkN, gk⟩ := e
    have s0 : slR σ (2 + k) = some x := (sR_kp hk).trans gk
    have s1 : slR ρ (2 + k) = some x := (so _ (by omega) (by omega)).trans s0
    have y := poρ.1 _ _ (by omega) s1
    have d := poρ.2 (2 + k) 0 _ _ (by omega) (by decide) (by omega) s1 (sR_z.trans h14ρ)
    exact ⟨y.1, y.2, far _ _ (by omega) (by omega) s0, by omega⟩
  have hSρ : CSt ρ hc S := CSt_q (fun s => n1 _ _ (by omega)) (fun s => n1 _ _ (by omega)) (fun s => n1 _ _ (by omega)) (fun s => n2 _ _ (by omega)) hS
  have r6 : gR ρ hc 6 = gR σ hc 6 := n3 _ _ (by omega) (by omega)
  have hlρ : ak ρ 2 (gR ρ hc 6) := fun z => by
    rw [r6] at z ⊢
    obtain ⟨v, ev⟩ : ∃ v, gR σ hc 6 = some v := Option.isSome_iff_exists.mp z
    rw [ev]
    show (kd ρ v).1 = 28
    rw [(kx v (hl v ev)).1.1]
  obtain ⟨τ1, t11, c1, ⟨c5, c7, c6⟩, d1, d2, d3, d4⟩ := T211 sc sh dd hSρ F hH hlρ
  have kd1 : ∀ q, kd τ1 q = kd ρ q := fun q => kd_r3 d4 q
  have ac : ao τ1 8 (some c) := of_eq_true (aoS (st_r3 d4 sc))
  obtain ⟨σ2, e2⟩ : ∃ σ2, σ2 = sI (sI (sR τ1 c 8 none) c 9 0) c 10 0 := ⟨_, rfl⟩
  have i2 : ∀ q s, ¬ (q = c ∧ (s = 9 ∨ s = 10)) → gI σ2 q s = gI τ1 q s := fun q s h => by
    rw [e2, gI_sI, if_neg (by omega), gI_sI, if_neg (by omega)]
    rfl
  have r2 : ∀ q s, ¬ (q = c ∧ s = 8) → gR σ2 q s = gR τ1 q s := fun q s h => by
    rw [e2]
    show gR (sR τ1 c 8 none) q s = _
    rw [gR_sR, if_neg h]
  have a2 : ∀ x, isSt ρ x → ao σ2 8 (some x) := fun x h => by rw [e2]; exact of_eq_true (aoS (st_r3 d4 h))
  have ig : ∀ q s, ¬ (c ≤ q ∧ q < c + 4) → gI σ2 q s = gI σ q s := fun q s h => by
    rw [i2 _ _ (by omega), d1 _ _ (by omega), n1 _ _ h]
  have rg : ∀ q s, ¬ (c ≤ q ∧ q < c + 4) → ¬ (q = 58 ∧ s = N) → gR σ2 q s = gR σ q s := fun q s h h' => by
    rw [r2 _ _ (by omega), d3 _ _ (by omega), n3 _ _ h h']
  have h14' : gR σ2 39 14 = some hc := (rg _ _ (by omega) (by omega)).trans h14
  have g5' : gI σ2 hc 5 = (a : Int) := (ig _ _ (by omega)).trans g5
  have g61' : gR σ2 61 a = l := (rg _ _ (by omega) (by omega)).trans g61
  have gd61 : Option.isSome (some 61) = true ∧ ab σ2 5 61 (a : Int) := by rw [g_61]; omega
  have gd60 : Option.isSome (some 60) = true ∧ ab σ2 5 60 (a : Int) := by rw [g_60]; omega
  have akc : ak σ2 2 (some c) := fun _ => by
    rw [e2]
    show (kd τ1 c).1 = 28
    rw [kd1, sc.1]
  have aqc : aq σ2 5 (some c) := akc
  have s59 : MM 38 [mR (some 39)] σ = RR (lkB tb38) (B38_59, [some (mR (some 39)), some (mI (N : Int)), some (mR (some c))], [], σ2) := by
    have gd58 : Option.isSome (some 58) = true ∧ ab ρ 5 58 (N : Int) := by rw [g_58]; omega
    have acρ : ao ρ 8 (some c) := of_eq_true (aoS sc)
    have an : ao τ1 8 (some c) ∧ ak τ1 2 none := ⟨ac, fun z => by cases z⟩
    have ab0 : ao τ1 8 (some c) ∧ bl 0 := ⟨ac, Or.inl rfl⟩
    rw [s29, e38_29, if_pos gd58, Int.toNat_natCast, r58, if_pos acρ, h14ρ, t11]
    show RR (lkB tb38) (B38_44, [some (mR (some 39)), some (mI (N : Int)), some (mR (some c))], [], τ1) = _
    rw [e38_44, if_pos an, if_pos ac, if_pos ab0, Option.getD_some, e2]
  have ah : ao σ2 8 (some hc) := a2 hc sh
  -- the list of the word
  obtain ⟨σ3, s106, i3, l3, ⟨k3, kk3⟩, f60, fx, r3⟩ : ∃ σ3, RR (lkB tb38) (B38_59, [some (mR (some 39)), some (mI (N : Int)), some (mR (some c))], [], σ2) = RR (lkB tb38) (B38_106, [some (mR (some 39)), some (mI (N : Int)), some (mR (some c))], [], σ3) ∧ (∀ q s, gI σ3 q s = gI σ2 q s) ∧ (∀ q s, gL σ3 q s = gL σ2 q s) ∧ ((∀ q, kd σ3 q = kd σ2 q) ∧ σ3.2.2.2 = σ2.2.2.2) ∧ (l = none → gR σ3 60 a = some c) ∧ (∀ x, l = some x → gR σ3 x 8 = some c) ∧ ∀ q s, (l = none → ¬ (q = 60 ∧ s = a)) → (∀ x, l = some x → ¬ (q = x ∧ s = 8)) → gR σ3 q s = gR σ2 q s := by
    cases hl' : l with
    | none =>
      refine ⟨sR σ2 60 a (some c), ?_, fun _ _ => rfl, fun _ _ => rfl, ⟨fun _ => rfl, rfl⟩, fun _ => ?_, fun x e => (by cases e), fun q s h _ => ?_⟩
      · have g : gR σ2 61 a = none := g61'.trans hl'
        have i0 : (Option.isSome (none : Option Nat) = true) = False := eq_false (by decide)
        simp only [e38_59, Option.getD_some, Option.bind_some, Option.toList_some, Option.toList_none, List.cons_append, List.nil_append, and_self, and_true, true_and, false_and, and_false, ite_self, not_true_eq_false, not_false_eq_true, reduceIte, Nat.reduceEqDiff, ab_I, ab_L, ab_R, ao_I, ao_L, ao_R, gL_sL, gI_sI, gR_sR, gI_sL, gI_sR, gL_sI, gL_sR, gR_sI, gR_sL, h14', eq_true ah, g5', eq_true gd61, eq_true gd60, eq_true aqc, Int.toNat_natCast, g, i0]
      · rw [gR_sR, if_pos ⟨rfl, rfl⟩]
      · rw [gR_sR, if_neg (h rfl)]
    | some x =>
      have y := kx x (hl2 x hl')
      refine ⟨sR σ2 x 8 (some c), ?_, fun _ _ => rfl, fun _ _ => rfl, ⟨fun _ => rfl, rfl⟩, fun e => (by cases e), fun x' e => ?_, fun q s _ h => ?_⟩
      · have g : gR σ2 61 a = some x := g61'.trans hl'
        have i0 : (Option.isSome (some x) = true) = True := eq_true rfl
        simp only [e38_59, Option.getD_some, Option.bind_some, Option.toList_some, Option.toList_none, List.cons_append, List.nil_append, and_self, and_true, true_and, false_and, and_false, ite_self, not_true_eq_false, not_false_eq_true, reduceIte, Nat.reduceEqDiff, ab_I, ab_L, ab_R, ao_I, ao_L, ao_R, gL_sL, gI_sI, gR_sR, gI_sL, gI_sR, gL_sI, gL_sR, gR_sI, gR_sL, h14', eq_true ah, g5', eq_true gd61, eq_true (a2 x y.1), eq_true akc, Int.toNat_natCast, g, i0]
      · rw [← Option.some.inj e, gR_sR, if_pos ⟨rfl, rfl⟩]
      · rw [gR_sR, if_neg (h x rfl)]
  have nx : ∀ x, l = some x → ¬ x = 39 ∧ ¬ x = 58 ∧ ¬ x = hc ∧ ¬ x = 61 ∧ ¬ x = c ∧ ¬ x = 59 := fun x e => by
    have y := kx x (hl2 x e)
    have z := y.2.1
    unfold isCl at z
    omega
  have h14'' : gR σ3 39 14 = some hc := (r3 _ _ (fun _ => by omega) (fun x e => by have := nx x e; omega)).trans h14'
  have g5'' : gI σ3 hc 5 = (a : Int) := (i3 _ _).trans g5'
  have ah3 : ao σ3 8 (some hc) := ⟨rfl, by show (kd σ3 hc).1 = 28; rw [k3]; exact ah.2⟩
  have akc3 : ak σ3 2 (some c) := fun z => by
    show (kd σ3 c).1 = 28
    rw [k3]
    exact akc z
  have gd61' : Option.isSome (some 61) = true ∧ ab σ3 5 61 (a : Int) := by rw [g_61]; omega
  obtain ⟨σ4, e4⟩ : ∃ σ4, σ4 = sI (sR (sR σ3 61 a (some c)) hc 6 (some c)) hc 7 0 := ⟨_, rfl⟩
  obtain ⟨σ5, e5⟩ : ∃ σ5, σ5 = sI σ4 51 2 ((N + 1 : Nat) : Int) := ⟨_, rfl⟩
  have i5 : ∀ q s, ¬ (q = hc ∧ s = 7) → ¬ (q = 51 ∧ s = 2) → gI σ5 q s = gI σ2 q s := fun q s h1 h2 => by
    rw [e5, gI_sI, if_neg h2, e4, gI_sI, if_neg h1]
    exact i3 q s
  have r5 : ∀ q s, ¬ (q = hc ∧ s = 6) → ¬ (q = 61 ∧ s = a) → gR σ5 q s = gR σ3 q s := fun q s h1 h2 => by
    rw [e5, e4]
    show gR (sR (sR σ3 61 a (some c)) hc 6 (some c)) q s = _
    rw [gR_sR, if_neg h1, gR_sR, if_neg h2]
  have l5 : ∀ q s, gL σ5 q s = gL τ1 q s := fun q s => by
    rw [e5, e4]
    show gL σ3 q s = _
    rw [l3, e2]
    rfl
  have k5 : ∀ q, kd σ5 q = kd ρ q := fun q => by
    rw [e5, e4]
    show kd σ3 q = _
    rw [k3, e2]
    exact kd1 q
  have g2' : gI σ4 51 (Int.toNat 2) = (N : Int) := by
    show gI σ4 51 2 = (N : Int)
    rw [e4, gI_sI, if_neg (by omega)]
    show gI σ3 51 2 = (N : Int)
    rw [i3, ig _ _ (by omega), g2]
  have ww : w32 ((N : Int) + 1) = ((N + 1 : Nat) : Int) := w32_s (by omega)
  have rs : ∀ q s, q = 39 ∨ q = 58 ∨ q = 59 → gR σ5 q s = gR ρ q s := fun q s h => by
    rw [r5 _ _ (by omega) (by omega), r3 _ _ (fun _ => by omega) (fun x e => by have := nx x e; omega), r2 _ _ (by omega), d3 _ _ (by omega)]
  have sρ : ∀ s, s < 312 → slR σ5 s = slR ρ s := fun s hs => by
    unfold slR
    rw [rs _ _ (by omega), rs _ _ (by omega), rs _ _ (by omega), rs _ _ (by omega)]
  have so' : ∀ s, s < 312 → ¬ s = 2 + N → slR σ5 s = slR σ s := fun s hs hn => (sρ s hs).trans (so s hs hn)
  have kk5 : σ5.2.2.2 = ρ.2.2.2 := by
    rw [e5, e4]
    show σ3.2.2.2 = _
    rw [kk3, e2]
    exact d4
  obtain ⟨po5, pn5, pg5⟩ := po_id poρ sρ kk5
  refine ⟨c, okc_o (τ := σ5) ?_ ⟨⟨?_, st_kd (fun q _ _ => k5 q) sc, cc⟩, ⟨?_, ⟨?_, ?_, ?_, ?_⟩, ?_, ?_⟩, ⟨?_, ?_, ?_⟩, ⟨?_, fun e => ?_, fun x e => ?_⟩, ⟨fun q s h1 h2 h3 => ?_, fun q s h1 => ?_, fun q s h1 h2 h3 h4 h5 h6 => ?_, fun q h1 => ?_⟩, ⟨?_, ?_, ?_⟩, so', far⟩⟩
  · have gd51 : Option.isSome (some 51) = true ∧ ab σ4 3 51 2 := by rw [g_51]; decide
    have ah4 : ao (sR σ3 61 a (some c)) 8 (some hc) ∧ ak (sR σ3 61 a (some c)) 2 (some c) := ⟨ah3, akc3⟩
    have ah5 : ao (sR (sR σ3 61 a (some c)) hc 6 (some c)) 8 (some hc) := ah3
    have h14a : gR (sR σ3 61 a (some c)) 39 14 = some hc := by rw [gR_sR, if_neg (by omega)]; exact h14''
    have h14b : gR (sR (sR σ3 61 a (some c)) hc 6 (some c)) 39 14 = some hc := by rw [gR_sR, if_neg (by omega)]; exact h14a
    rw [s59, s106, e38_106, h14'', if_pos ah3, Option.getD_some, g5'', if_pos ⟨gd61', akc3⟩, Int.toNat_natCast, h14a, if_pos ⟨ah3, akc3⟩]
    simp only [Option.getD_some, h14b]
    rw [if_pos ah3, ← e4, e38_135, if_pos gd51, if_pos gd51, g2', ww, e5]
    rfl
  · rw [r5 _ _ (by omega) (by omega), r3 _ _ (fun _ => by omega) (fun x e => by have := nx x e; omega), r2 _ _ (by omega), d3 _ _ (by omega)]
    exact r58
  · have s2 : CSt σ2 c S := by
      rw [e2]
      exact CSt_9 (Or.inr rfl) (by omega) (by omega) (CSt_9 (σ := sR τ1 c 8 none) (Or.inl rfl) (by omega) (by omega) c1)
    exact CSt_q (fun s => i5 _ _ (by omega) (by omega)) (fun s => i5 _ _ (by omega) (by omega)) (fun s => i5 _ _ (by omega) (by omega)) (fun s => by rw [l5, e2]; rfl) s2
  · rw [i5 _ _ (by omega) (by omega), i2 _ _ (by omega), c5, n1 _ _ (by omega), g5]
  · rw [i5 _ _ (by omega) (by omega), i2 _ _ (by omega), c7, n1 _ _ (by omega)]
  · rw [i5 _ _ (by omega) (by omega), e2, gI_sI, if_neg (by omega), gI_sI, if_pos ⟨rfl, rfl⟩]
  · rw [i5 _ _ (by omega) (by omega), e2, gI_sI, if_pos ⟨rfl, rfl⟩]
  · rw [r5 _ _ (by omega) (by omega), r3 _ _ (fun _ => by omega) (fun x e => by have := nx x e; omega), r2 _ _ (by omega), c6, r6]
  · rw [r5 _ _ (by omega) (by omega), r3 _ _ (fun _ => by omega) (fun x e => by have := nx x e; omega), e2]
    show gR (sR τ1 c 8 none) c 8 = none
    rw [gR_sR, if_pos ⟨rfl, rfl⟩]
  · rw [e5, e4]
    show gR (sR (sR σ3 61 a (some c)) hc 6 (some c)) hc 6 = some c
    rw [gR_sR, if_pos ⟨rfl, rfl⟩]
  · rw [e5, gI_sI, if_neg (by omega), e4, gI_sI, if_pos ⟨rfl, rfl⟩]
  · rw [e5, gI_sI, if_pos ⟨rfl, rfl⟩]
  · rw [e5, e4]
    show gR (sR (sR σ3 61 a (some c)) hc 6 (some c)) 61 a = some c
    rw [gR_sR, if_neg (by omega), gR_sR, if_pos ⟨rfl, rfl⟩]
  · rw [r5 _ _ (by omega) (by omega)]
    exact f60 e
  · have := nx x e
    rw [r5 _ _ (by omega) (by omega)]
    exact fx x e
  · rw [i5 q s h2 h3, ig q s h1]
  · rw [l5, d2 _ _ (by omega), n2 q s h1]
  · rw [r5 q s h3 h4, r3 q s h5 h6, rg q s h1 h2]
  · rw [k5, n4 q h1]
  · exact po5
  · exact pn5 C pnρ
  · exact pgr_t pg5 pgρ
end CKEP2
