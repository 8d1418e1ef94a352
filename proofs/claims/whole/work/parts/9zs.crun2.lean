/-! ===== the class's runs, way 0, whole ===== -/
/-- words of a slot -/
def prC (σ : MS) (s i : Int) : B64 := gL σ (7 + s.toNat) i.toNat
/-- programs that were taken are well formed -/
def taC (σ : MS) : Prop := ∀ s : Int, 0 ≤ s → s < 8 → ¬ gI σ 16 s.toNat = 0 → gI σ 15 s.toNat ≤ 200 ∧ ∃ G : Int → Prop, okP G (prC σ s) ∧ G 0 ∧ ∀ i, G i → 0 ≤ i ∧ i < gI σ 15 s.toNat
/-- where a slot's words are -/
def slC (σ : MS) : Prop := ∀ s, s < 8 → gR σ 6 s = some (7 + s)
theorem rnT_hl {B : WB WR} {H : WH WR} {E : EV} {tk : WR → WR} {pr : Int → Int → B64} {sl : WR → Int} {rem : WR → Nat} {I : WR → Prop} {R : WR → WR → Prop} (hR : keepR B H R) (hk : ∀ w, R w (tk w)) (h1 : ∀ w v, R w v → rem v = rem w ∧ (I w → I v)) (h2 : ∀ w m x v, I w → H.2.2.2.2.2.2.2.2.1 w m x = some v → rem v + 1 = rem w ∧ I v) {good : Int → Prop} (fi : ∀ v s, good s → (∀ i, i < 64 → B.2.2.2.1 v i = false) → fin B H E (pr s) tk 4000 (st0 v)) (h3 : ∀ w m x v, I w → H.2.2.2.2.2.2.2.2.1 w m x = some v → good (sl v)) :
    ∀ (n : Nat) (s : Int) (c r : TC WR) (k : Nat), fin B H E (pr s) tk k c → I (cW c) → rnT B H E tk pr sl n s c = some r → ∀ i, i < 64 → B.2.2.2.1 (cW r) i = false := by
  intro n
  induction n with
  | zero => intro s c r k _ _ e; cases e
  | succ n ih =>
    intro s c r k f hI e
    cases k with
    | zero => exact f.elim
    | succ k =>
      obtain ⟨q, c', es, a, b⟩ := f
      unfold rnT at e
      rw [es] at e
      have qq := stpT_R hR (show stpT B H E (cP c, cN c, cR c, cS c, cB c, tk (cW c)) _ _ = some (q, c') from es)
      have tI := (h1 _ _ (hk (cW c)))
      match q, a, b, qq with
      | 0, a, b, qq =>
        have e : rnT B H E tk pr sl n s c' = some r := e
        have z := h1 _ _ (qq.resolve_left (fun z => by omega)).2
        exact ih s c' r k (a rfl) (z.2 (tI.2 hI)) e
      | 1, a, b, qq =>
        have e : some c' = some r := e
        cases e
        exact (b (by decide)).2.2
      | q + 2, a, b, qq =>
        have e : rnT B H E tk pr sl n (sl (cW c')) (st0 (cW c')) = some r := e
        have eb := b (by omega)
        obtain ⟨mm, x, hx⟩ : ∃ m x, H.2.2.2.2.2.2.2.2.1 (tk (cW c)) m x = some (cW c') := by
          rcases qq with q | q
          · exact q.2
          · exfalso
            have := eb.1
            omega
        have z := h2 _ _ _ _ (tI.2 hI) hx
        exact ih _ _ r 4000 (fi _ _ (h3 _ _ _ _ (tI.2 hI) hx) eb.2.2) z.2 e
section CRUN2
variable {σ τ ρ υ : MS} {W V : WR} {c c' d r : TC WR} {w w2 : B64} {m p q e z N o k K : Nat} {y nx hh i x1 x2 : Int} {E : EV} {φ ψ : Nat → Nat} {x v x3 : B64} {u : SV}
theorem cu_kd (s : Nat) (hs : s < 8) : kd σ (7 + s) = (4, 200) := by
  have : s = 0 ∨ s = 1 ∨ s = 2 ∨ s = 3 ∨ s = 4 ∨ s = 5 ∨ s = 6 ∨ s = 7 := by omega
  rcases this with q | q | q | q | q | q | q | q <;> (rw [q]; rfl)
theorem L179 (C : CEO σ E) (hE : okE E) (hR : okRow E) (ht : taC σ) (sl : slC σ) : ∀ (n : Nat) (s : Int) (c r : TC WR) (ρ : MS) (φ : Nat → Nat) (j : Nat), mvC σ ρ → RelC ρ φ c → bOk ρ → invW (cW c) → gI ρ 71 9 = 0 → gI ρ 71 8 = cP c → gI ρ 71 7 = s → (0 ≤ s ∧ s < 8) → gI σ 15 s.toNat ≤ 200 → (∃ G : Int → Prop, okP G (prC σ s) ∧ gdT G c ∧ ∀ i, G i → 0 ≤ i ∧ i < gI σ 15 s.toNat) → j + n < 1000000 → rnT RB RH E RT (prC σ) sloW n s c = some r →
    ∃ (τ : MS) (j' : Nat) (ψ : Nat → Nat), RR (lkB tb179) (B179_53, [some (mR (some 71)), some (mI x1), some (mI 0), some (mL x3), none, some (mI (j : Int))], [], ρ) = RR (lkB tb179) (B179_53, [some (mR (some 71)), some (mI x1), some (mI 0), some (mL x3), none, some (mI (j' : Int))], [], τ) ∧ RelC τ ψ r ∧ bOk τ ∧ invW (cW r) ∧ mvC σ τ ∧ gI τ 71 9 = 1 ∧ gL τ 76 0 = (rdR r 0).2 ∧ (j' : Int) < 1000000 := by
  intro n
  induction n with
  | zero => intro s c r ρ φ j _ _ _ _ _ _ _ _ _ _ _ e; cases e
  | succ n ih =>
    intro s c r ρ φ j mv h hb hI h9 h8 h7 hs h15 hG hj e
    obtain ⟨G, hP, hg, hr⟩ := hG
    unfold rnT at e
    obtain ⟨s', hs'⟩ : ∃ s' : Nat, s = (s' : Int) := ⟨s.toNat, by omega⟩
    have s8 : s' < 8 := by omega
    have ts : s.toNat = s' := by omega
    rw [ts] at h15
    have gc := hr _ hg.2.1
    rw [ts] at gc
    obtain ⟨p, hp⟩ : ∃ p : Nat, cP c = (p : Int) := ⟨(cP c).toNat, by omega⟩
    obtain ⟨o1, o2, o3, o4⟩ := hP _ hg.2.1
    have g15 : gI ρ 15 s' = gI σ 15 s' := mv.1 15 s' (by omega)
    have C1 : CEO ρ E := fun m hm => by
      rw [mv.1 31 m (by omega), mv.1 32 m (by omega), mv.1 29 m (by omega), mv.1 30 m (by omega)]
      exact C m hm
    have r6 : gR ρ 6 s' = some (7 + s') := by
      have : gR ρ 6 s' = gR σ 6 s' := by
        unfold gR
        rw [mv.2.2]
      rw [this]
      exact sl s' s8
    have lw : ∀ t, gL ρ (7 + s') t = gL σ (7 + s') t := fun t => mv.2.1 _ t (by omega) (by omega)
    have ew : prC σ s (cP c) = gL ρ (7 + s') p := by
      rw [lw]
      unfold prC
      rw [ts, hp, Int.toNat_natCast]
    have ew2 : prC σ s (cP c + 1) = gL ρ (7 + s') (p + 1) := by
      rw [lw]
      unfold prC
      rw [ts, show (cP c + 1).toNat = p + 1 by omega]
    have es : stp1 RB RH E (prC σ s) RT c = stpT RB RH E (cP c, cN c, cR c, cS c, cB c, RT (cW c)) (prC σ s (cP c)) (prC σ s (cP c + 1)) := rfl
    rw [es] at e
    cases est : stpT RB RH E (cP c, cN c, cR c, cS c, cB c, RT (cW c)) (prC σ s (cP c)) (prC σ s (cP c + 1)) with
    | none =>
      rw [est] at e
      cases e
    | some q =>
      obtain ⟨k, c'⟩ := q
      rw [est] at e
      have i2 := stp_i (c := (cP c, cN c, cR c, cS c, cB c, RT (cW c))) (inv_ch hI) est
      have gd0 : k = 0 → gdT G c' := fun k0 => by
        have gd1 : gdT G (cP c, cN c, cR c, cS c, cB c, RT (cW c)) := hg
        exact stp_G hP gd1 (by rw [← k0]; exact est)
      obtain ⟨τ, ψ, t, mt, q⟩ := T190 (w := prC σ s (cP c)) (w2 := prC σ s (cP c + 1)) (p := p) (s := s') (K := 7 + s') h hb hI C1 hE hR hp (h8.trans hp) (h7.trans hs') s8 (by rw [g15]; omega) (by rw [g15]; exact h15) (fun l0 => by
        have := hr _ (o2 l0)
        rw [ts] at this
        rw [g15]
        omega) r6 (cu_kd s' s8) (by omega) ew.symm ew2.symm o1 (fun a1 a2 a3 => by
        have := hr _ (o4 a1 a2 a3)
        rw [ts] at this
        rw [← hp]
        omega) est
      have mτ := mvC_t mv mt
      have bt := MM_b hb t
      have j3 : ¬ (1000000 : Int) ≤ (j : Int) := by omega
      have s1 : -2147483648 ≤ (j : Int) + 1 ∧ (j : Int) + 1 < 2147483648 := by omega
      have ij : (j : Int) + 1 = ((j + 1 : Nat) : Int) := by omega
      have turn : RR (lkB tb179) (B179_53, [some (mR (some 71)), some (mI x1), some (mI 0), some (mL x3), none, some (mI (j : Int))], [], ρ) = RR (lkB tb179) (B179_53, [some (mR (some 71)), some (mI x1), some (mI 0), some (mL x3), none, some (mI ((j + 1 : Nat) : Int))], [], τ) := by
        have ww : w32 ((j : Int) + 1) = ((j + 1 : Nat) : Int) := by rw [w32_i s1.1 s1.2, ij]
        rw [e179_53, if_neg j3, h9, if_neg (not_not_intro rfl), if_neg (not_not_intro rfl), t]
        simp only [Option.getD_some, Option.bind_some, Option.toList_some, Option.toList_none, List.cons_append, List.nil_append, and_self, and_true, true_and, false_and, and_false, ite_self, not_true_eq_false, not_false_eq_true, reduceIte, Nat.reduceEqDiff, ab_I, ab_L, ab_R, ao_I, ao_L, ao_R, gL_sL, gI_sI, gR_sR, gI_sL, gI_sR, gL_sI, gL_sR, gR_sI, gR_sL, e179_75, e179_101, ww]
      rcases q with ⟨rfl, q1, q2, q3⟩ | ⟨rfl, q1, q2, q3, q4⟩ | ⟨rfl, q1, q2, q3, q4, q5⟩
      · have e : rnT RB RH E RT (prC σ) sloW n s c' = some r := e
        have t7 : gI τ 71 7 = gI ρ 71 7 := by
          have w1 := q1.2.2.2.2.2.2.2.2.1.2.2.2.1
          have kp := ((stpT_R kpc_all est).resolve_left (fun z => by cases z.1)).2
          have w2 := h.2.2.2.2.2.2.2.2.1.2.2.2.1
          rw [← w1, ← w2]
          exact kp.2 80 122 (by omega)
        obtain ⟨τ', j', ψ', a1, a2⟩ := ih s c' r τ ψ (j + 1) mτ q1 bt i2 (q3.trans h9) q2 (t7.trans h7) hs (by rw [ts]; exact h15) ⟨G, hP, gd0 rfl, hr⟩ (by omega) e
        exact ⟨τ', j', ψ', turn.trans a1, a2⟩
      · have e : some c' = some r := e
        cases e
        rw [q2] at i2 ⊢
        refine ⟨τ, j + 1, ψ, turn, q1, bt, i2, mτ, q3, q4, by omega⟩
      · have e : rnT RB RH E RT (prC σ) sloW n (sloW (cW c')) (st0 (cW c')) = some r := e
        have w7 : gI τ 71 7 = sloW (cW c') := q2.2.2.2.2.2.2.2.2.1.2.2.2.1.symm
        have h85 : gI σ 16 (wg (cW c') 80 122).toNat = wg (cW c') 85 (wg (cW c') 80 122).toNat := by
          have := q2.2.2.2.2.2.2.2.2.2.1 (wg (cW c') 80 122).toNat (by have := q5.1; omega)
          rw [← mτ.1 16 (wg (cW c') 80 122).toNat (by omega)]
          exact this.symm
        obtain ⟨c15, G', hP', g0, hr'⟩ := ht _ q5.1.1 q5.1.2 (by rw [h85]; exact q5.2.1)
        obtain ⟨τ', j', ψ', a1, a2⟩ := ih (sloW (cW c')) (st0 (cW c')) r τ ψ (j + 1) mτ q2 bt i2 (q4.trans h9) q3 w7 q5.1 c15 ⟨G', hP', ⟨Nat.le_refl 1, g0, fun f f1 f2 => by
          have f2 : f < 1 := f2
          omega⟩, hr'⟩ (by omega) e
        exact ⟨τ', j', ψ', turn.trans a1, a2⟩
/-- what a run moves, seen from outside -/
def rmvC (σ τ : MS) : Prop := (∀ k s, ¬ movC k s → ¬ (k = 71 ∧ s = 11) → gI τ k s = gI σ k s) ∧ (∀ k s, ¬ (k = 76 ∨ k = 77) → ¬ (k = 71 ∧ (s = 13 ∨ s = 14 ∨ s = 16)) → gL τ k s = gL σ k s) ∧ τ.2.2 = σ.2.2
/-- RUN, way 0 -/
theorem T179 {s0 : Nat} (C : CEO σ E) (hE : okE E) (hR : okRow E) (ht : taC σ) (sl : slC σ) (wo : wldO σ W) (hI : invW W) (hb : bOk σ) (hs : s0 < 8) (h16 : ¬ gI σ 16 s0 = 0) (hN : N < 900000) (e : rnT RB RH E RT (prC σ) sloW N (s0 : Int) (st0 (bgW W (s0 : Int))) = some r) (h0 : ∀ i, i < 64 → RB.2.2.2.1 (cW r) i = false) :
    ∃ τ, MM 179 [mR (some 71), mI (s0 : Int), mI 0] σ = some (some (mI (lI ((cW r).2.2 - gL σ 71 16))), τ) ∧ wldO τ (edW (cW r)) ∧ gL τ 71 14 = (rdR r 0).2 ∧ rmvC σ τ := by
  obtain ⟨ρ, t, rel, g9, g8, g7, mv, bρ⟩ := B179 (s0 := s0) (x2 := 0) wo hI hb
  have lk : ∀ k t, ¬ (k = 76 ∨ k = 77) → ¬ (k = 71 ∧ (t = 13 ∨ t = 16)) → gL ρ k t = gL σ k t := mv.2.1
  obtain ⟨c15, G, hP, g0, hr⟩ := ht (s0 : Int) (by omega) (by omega) (by rw [Int.toNat_natCast]; exact h16)
  obtain ⟨τ, j', ψ, a1, a2, a3, a4, a5, a6, a7, a8⟩ := L179 (x1 := (s0 : Int)) (x3 := gL σ 71 16) C hE hR ht sl N (s0 : Int) (st0 (bgW W (s0 : Int))) r ρ (fun _ => 0) 0 mv rel bρ (bgW_inv hI) g9 g8 g7 (by omega) c15 ⟨G, hP, ⟨Nat.le_refl 1, g0, fun f f1 f2 => by
    have f2 : f < 1 := f2
    omega⟩, hr⟩ (by omega) e
  obtain ⟨υ, b1, b2, b3, b4, b5, b6⟩ := E179 (x1 := (s0 : Int)) (x2 := 0) (x3 := gL σ 71 16) (i := (j' : Int)) a2 a4 (fun i hi => Decidable.byContradiction fun z => by
    have := h0 i hi
    have y : RB.2.2.2.1 (cW r) i = true := decide_eq_true z
    rw [y] at this
    cases this)
  refine ⟨υ, ?_, b2, b3.trans a7, fun k s z1 z2 => ?_, fun k s z1 z2 => ?_, b6.trans a5.2.2⟩
  · have a1 : RR (lkB tb179) (B179_53, [some (mR (some 71)), some (mI (s0 : Int)), some (mI 0), some (mL (gL σ 71 16)), none, some (mI 0)], [], ρ) = _ := a1
    have j3 : ¬ (1000000 : Int) ≤ (j' : Int) := by omega
    have n1 : ¬ (1 : Int) = 0 := by decide
    rw [t, a1, e179_53, if_neg j3, a6, if_pos n1]
    exact b1
  · rw [b4 k s (by omega)]
    exact a5.1 k s z1
  · rw [b5 k s (by omega)]
    exact a5.2.1 k s z1 (by omega)
end CRUN2
