/-! ===== the reference's runs, whole ===== -/
/-- words of a slot; the slot to go on with -/
def prR (σ : MS) (s i : Int) : B64 := gL σ 83 (200 * s.toNat + i.toNat)
def sloW (w : WR) : Int := wg w 80 122
/-- comparisons, over the reference's layout (with the mended comparison of 00g) -/
def cmX : Prop := ∀ (σ : MS) (c : TC WR) (w : B64) (b : Bool), RelR σ c → cmT c w = some b → isCmp (fC w) → fD w ≤ 10 → (rgt w → fS w ≤ 10) → cmpW (fC w) (decide (widJ w)) (gL σ 146 (rpR c (dR w))) (sdR σ c w) = b
/-- programs that were taken are well formed -/
def taR (σ : MS) : Prop := ∀ s : Int, 0 ≤ s → s < 8 → ¬ gI σ 85 s.toNat = 0 → ∃ G : Int → Prop, okP G (prR σ s) ∧ G 0 ∧ ∀ i, G i → 0 ≤ i ∧ i < 200
section RRUN
variable {σ τ ρ υ : MS} {c c' r : TC WR} {W V : WR} {w w2 x A a F v : B64} {f b k n o m e N : Nat} {y nx hh i x1 x2 s : Int} {E : EV}
theorem L551 (hX : cmX) (hE : EC σ E) (h54 : gI σ 80 54 = 1) (ht : taR σ) : ∀ (n : Nat) (s : Int) (c r : TC WR) (ρ : MS) (j : Nat), mvR σ ρ → RelR ρ c → invW (cW c) → gI ρ 80 124 = 1 → gI ρ 80 123 = cP c → gI ρ 80 122 = s → (0 ≤ s ∧ s < 8) → (∃ G : Int → Prop, okP G (prR σ s) ∧ gdT G c ∧ ∀ i, G i → 0 ≤ i ∧ i < 200) → j + n < 100000 → rnT RB RH E RT (prR σ) sloW n s c = some r →
    ∃ (τ : MS) (j' : Nat), RR (lkB tb551) (B551_95, [some (mR (some 80)), some (mI x1), some (mI x2), some (mI (j : Int)), none], [], ρ) = RR (lkB tb551) (B551_95, [some (mR (some 80)), some (mI x1), some (mI x2), some (mI (j' : Int)), none], [], τ) ∧ (j ≤ j' ∧ j' ≤ j + n) ∧ (cW r).2.2 = (cW c).2.2 + BitVec.ofNat 64 (j' - j) ∧ RelR τ r ∧ invW (cW r) ∧ mvR σ τ ∧ gI τ 80 124 = 0 ∧ gL τ 146 0 = (rdR r 0).2 := by
  intro n
  induction n with
  | zero => intro s c r ρ j _ _ _ _ _ _ _ _ _ e; cases e
  | succ n ih =>
    intro s c r ρ j mv h hI h124 h123 h122 hs hG hj e
    obtain ⟨G, hP, hg, hr⟩ := hG
    unfold rnT at e
    obtain ⟨c1, hc1⟩ : ∃ c1 : TC WR, c1 = (cP c, cN c, cR c, cS c, cB c, RT (cW c)) := ⟨_, rfl⟩
    obtain ⟨ρ1, hρ⟩ : ∃ ρ1, ρ1 = sL ρ 80 111 (gL ρ 80 111 + BitVec.ofNat 64 1) := ⟨_, rfl⟩
    have wl := RelR_wld h
    have l1 : ∀ k s, ¬ (k = 80 ∧ s = 111) → gL ρ1 k s = gL ρ k s := fun k s z => by rw [hρ, gL_sL, if_neg z]
    have g1 : ∀ k s, gI ρ1 k s = gI ρ k s := fun k s => by rw [hρ]; rfl
    have mv1 : mvR σ ρ1 := mvR_t mv ⟨fun k s _ => g1 k s, fun k s _ z => l1 k s (by omega), by rw [hρ]; rfl⟩
    have r1 : RelR ρ1 c1 := by
      rw [hc1]
      refine RelR_w h (g1 _ _) (fun s => l1 _ _ (by omega)) (fun s => g1 _ _) (fun s => g1 _ _) ⟨fun k s p => (wl.1 k s p).trans (g1 k s).symm, ?_, ?_⟩
      · rw [l1 _ _ (by omega)]
        exact wl.2.1
      · rw [hρ, gL_sL, if_pos ⟨rfl, rfl⟩, ← wl.2.2]
        rfl
    have i1 : invW (cW c1) := by
      rw [hc1]
      exact inv_ch hI
    have eP : cP c1 = cP c := by rw [hc1]
    have gc := hr _ hg.2.1
    have es : stp1 RB RH E (prR σ s) RT c = stpT RB RH E c1 (prR σ s (cP c)) (prR σ s (cP c + 1)) := by rw [hc1]; rfl
    rw [es] at e
    obtain ⟨o1, o2, o3, o4⟩ := hP _ hg.2.1
    have p83 : ∀ t, gL ρ1 83 t = gL σ 83 t := fun t => mv1.2.1 83 t (by decide) (by omega)
    cases est : stpT RB RH E c1 (prR σ s (cP c)) (prR σ s (cP c + 1)) with
    | none =>
      rw [est] at e
      cases e
    | some q =>
      obtain ⟨k, c'⟩ := q
      rw [est] at e
      have b83 : 0 ≤ ((200 * s.toNat + (cP c).toNat : Nat) : Int) ∧ ((200 * s.toNat + (cP c).toNat : Nat) : Int) < 1600 := by omega
      have sA : -2147483648 ≤ 200 * s ∧ 200 * s < 2147483648 := by omega
      have sB : -2147483648 ≤ 200 * s + cP c ∧ 200 * s + cP c < 2147483648 := by omega
      have sE : 200 * s + cP c = ((200 * s.toNat + (cP c).toNat : Nat) : Int) := by omega
      have e2 : (cP c + 1).toNat = (cP c).toNat + 1 := by omega
      have j3 : j < 100000 := by omega
      have E1 : EC ρ1 E := fun m hm => by
        rw [mv1.1 97 m (by omega), mv1.1 98 m (by omega)]
        exact hE m hm
      have t := T557 (w := prR σ s (cP c)) (w2 := prR σ s (cP c + 1)) (k := k) (c' := c') r1 i1 E1 ((mv1.1 80 54 (by omega)).trans h54) (by rw [eP]; exact gc) (fun l0 => by
          have := hr _ (o2 l0)
          rw [eP]
          omega) (by rw [eP, g1]; exact h123) (by rw [g1, h122]; exact hs) (by
          rw [g1, h122, eP, p83]
          unfold prR
          rw [e2]
          rfl) o1 (fun a1 a2 a3 => by
          have := hr _ (o4 a1 a2 a3)
          rw [eP]
          omega) (fun b hb hc hd hs' => hX ρ1 c1 _ b r1 hb hc hd hs') est
      obtain ⟨τ, t, mt, q⟩ := t
      have mτ : mvR σ τ := mvR_t mv1 mt
      -- a turn
      have turn : RR (lkB tb551) (B551_95, [some (mR (some 80)), some (mI x1), some (mI x2), some (mI (j : Int)), none], [], ρ) = RR (lkB tb551) (B551_95, [some (mR (some 80)), some (mI x1), some (mI x2), some (mI ((j + 1 : Nat) : Int)), none], [], τ) := by
        have wp : w32 (w32 (200 * gI ρ1 80 122) + gI ρ1 80 123) = ((200 * s.toNat + (cP c).toNat : Nat) : Int) := by
          rw [g1, g1, h122, h123, w32_i sA.1 sA.2, w32_i sB.1 sB.2, sE]
        have ww : w32 ((j : Int) + 1) = ((j + 1 : Nat) : Int) := w32_s j3
        have p1 : gL ρ1 83 (200 * s.toNat + (cP c).toNat) = prR σ s (cP c) := p83 _
        rw [e551_95, h124, if_neg (by decide), ← hρ, wp]
        simp only [Option.getD_some, Option.bind_some, Option.toList_some, Option.toList_none, List.cons_append, List.nil_append, and_self, and_true, true_and, false_and, and_false, ite_self, not_true_eq_false, not_false_eq_true, reduceIte, Nat.reduceEqDiff, ab_I, ab_L, ab_R, ao_I, ao_L, ao_R, gL_sL, gI_sI, gR_sR, gI_sL, gI_sR, gL_sI, gL_sR, gR_sI, gR_sL, g_83, b83.1, b83.2, Int.toNat_natCast, p1, t, ww]
        rw [e551_137]
      have kp := stpT_R kpc_all est
      have w1 : (cW c1).2.2 = (cW c).2.2 + 1#64 := by rw [hc1]; rfl
      have i2 := stp_i i1 est
      have one : ∀ (V : WR) (j' : Nat), j + 1 ≤ j' → V.2.2 = (cW c).2.2 + 1#64 → V.2.2 + BitVec.ofNat 64 (j' - (j + 1)) = (cW c).2.2 + BitVec.ofNat 64 (j' - j) := fun V j' h1 h2 => by
        rw [h2, BitVec.add_assoc, show (1#64 : B64) = BitVec.ofNat 64 1 from rfl, nat_s]
        exact congrArg (fun z => (cW c).2.2 + BitVec.ofNat 64 z) (by omega)
      rcases q with ⟨rfl, q1, q2, q3, q4⟩ | ⟨rfl, q1, q2, q3, q4, q5⟩ | ⟨rfl, q1, q2, q3, q4, q5, q6⟩
      · have e : rnT RB RH E RT (prR σ) sloW n s c' = some r := e
        have k2 := (kp.resolve_left (fun z => by cases z.1)).2
        have gd1 : gdT G c1 := by rw [hc1]; exact hg
        have est' : stpT RB RH E c1 (prR σ s (cP c1)) (prR σ s (cP c1 + 1)) = some (0, c') := by rw [eP]; exact est
        obtain ⟨τ', j', a1, a2, a3, a4, a5, a6, a7, a8⟩ := ih s c' r τ (j + 1) mτ q1 i2 (q4.trans ((g1 _ _).trans h124)) q2 (q3.trans ((g1 _ _).trans h122)) hs ⟨G, hP, stp_G hP gd1 est', hr⟩ (by omega) e
        refine ⟨τ', j', turn.trans a1, by omega, ?_, a4, a5, a6, a7, a8⟩
        rw [a3]
        exact one (cW c') j' a2.1 (k2.1.trans w1)
      · have e : some c' = some r := e
        cases e
        rw [q2] at i2 ⊢
        refine ⟨τ, j + 1, turn, by omega, ?_, q1, i2, mτ, q3, q5⟩
        rw [w1, show j + 1 - j = 1 by omega]
      · have e : rnT RB RH E RT (prR σ) sloW n (sloW (cW c')) (st0 (cW c')) = some r := e
        have h85 : gI σ 85 (wg (cW c') 80 122).toNat = wg (cW c') 85 (wg (cW c') 80 122).toNat := by
          have := (RelR_wld q2).1 85 (wg (cW c') 80 122).toNat (by omega)
          rw [← mτ.1 85 (wg (cW c') 80 122).toNat (by omega)]
          exact this.symm
        obtain ⟨G', hP', g0, hr'⟩ := ht _ q6.1.1 q6.1.2 (by rw [h85]; exact q6.2.1)
        obtain ⟨τ', j', a1, a2, a3, a4, a5, a6, a7, a8⟩ := ih (sloW (cW c')) (st0 (cW c')) r τ (j + 1) mτ q2 i2 (q5.trans ((g1 _ _).trans h124)) q3 q4 q6.1 ⟨G', hP', ⟨Nat.le_refl 1, g0, fun f f1 f2 => by
          have f2 : f < 1 := f2
          omega⟩, hr'⟩ (by omega) e
        refine ⟨τ', j', turn.trans a1, by omega, ?_, a4, a5, a6, a7, a8⟩
        rw [a3]
        exact one (cW c') j' a2.1 (q6.2.2.trans w1)
/-! the begin -/
def bgW (W : WR) (s : Int) : WR := (fun k t => if k = 152 ∧ t < 64 then 0 else if k = 80 ∧ t = 110 then 0 else if k = 80 ∧ t = 122 then s else W.1 k t, W.2)
theorem bgW_inv (h : invW W) : invW (bgW W s) := by
  have g : ∀ k t, ¬ (k = 152) → ¬ (k = 80 ∧ (t = 110 ∨ t = 122)) → wg (bgW W s) k t = wg W k t := fun k t z1 z2 => by
    show (if k = 152 ∧ t < 64 then 0 else if k = 80 ∧ t = 110 then 0 else if k = 80 ∧ t = 122 then s else W.1 k t) = _
    rw [if_neg (by omega), if_neg (by omega), if_neg (by omega)]
  have g0 : ∀ t, t < 64 → wg (bgW W s) 152 t = 0 := fun t ht => if_pos ⟨rfl, ht⟩
  have gt : wg (bgW W s) 80 110 = 0 := rfl
  have h0 : ∀ m, hldR (bgW W s) m = 0 := fun m => by
    unfold hldR
    rw [List.length_eq_zero_iff, List.filter_eq_nil_iff]
    intro i hi
    have := g0 i (List.mem_range.mp hi)
    simp [this]
  refine ⟨fun m hm => ?_, fun m e hm he => ?_, fun k t z => ?_, ?_, fun i hi z => absurd (g0 i hi) z, fun m hm => ?_, fun m x hm hx => ?_⟩
  · rw [g _ _ (by decide) (by omega), g _ _ (by decide) (by omega), g _ _ (by decide) (by omega), g _ _ (by decide) (by omega), g _ _ (by decide) (by omega)]
    exact h.1 m hm
  · rw [g _ _ (by decide) (by omega)] at he ⊢
    exact h.2.1 m e hm he
  · rw [g _ _ (by omega) (by omega)]
    exact h.2.2.1 k t z
  · rw [g _ _ (by decide) (by omega), g _ _ (by decide) (by omega), gt]
    exact ⟨h.2.2.2.1.1, h.2.2.2.1.2.1, by decide⟩
  · rw [g _ _ (by decide) (by omega), g _ _ (by decide) (by omega), h0]
    have := h.2.2.2.2.2.1 m hm
    omega
  · rw [g _ _ (by decide) (by omega)]
    exact h.2.2.2.2.2.2 m x hm hx
/-- the end: cells that were given back in the run are free -/
def edW (W : WR) : WR := (fun k t => if k = 104 ∧ t < 256 then (if ¬ W.1 105 t = 0 then 0 else W.1 104 t % 2) else if k = 105 ∧ t < 256 then 0 else W.1 k t, W.2)
theorem iAnd_0 (a : Int) : iAnd a 0 = 0 := by
  unfold iAnd
  rw [show b32 0 = 0#32 from rfl, BitVec.and_zero]
  rfl
theorem L551z {x3 : Int} : ∀ (f j : Nat) (ρ : MS), j + f = 256 → ∃ τ, RR (lkB tb551) (B551_158, [some (mR (some 80)), some (mI x1), some (mI x2), some (mI x3), some (mI (j : Int))], [], ρ) = some (some (mI x3), τ) ∧ τ.2 = ρ.2 ∧ ∀ k t, gI τ k t = if k = 104 ∧ j ≤ t ∧ t < 256 then (if ¬ gI ρ 105 t = 0 then 0 else gI ρ 104 t % 2) else if k = 105 ∧ j ≤ t ∧ t < 256 then 0 else gI ρ k t := by
  intro f
  induction f with
  | zero =>
    intro j ρ z
    have z : j = 256 := by omega
    subst z
    refine ⟨ρ, ?_, rfl, fun k t => ?_⟩
    · rw [e551_158, if_pos (by decide)]
    · rw [if_neg (by omega), if_neg (by omega)]
  | succ f ih =>
    intro j ρ z
    have nl : ¬ 256 ≤ (j : Int) := by omega
    have bj : 0 ≤ (j : Int) ∧ (j : Int) < 256 := by omega
    have j3 : j < 100000 := by omega
    obtain ⟨τ, t1, t2, t3⟩ := ih (j + 1) (sI (sI ρ 104 j (if ¬ gI ρ 105 j = 0 then 0 else gI ρ 104 j % 2)) 105 j 0) (by omega)
    refine ⟨τ, ?_, t2, fun k t => ?_⟩
    · have ww : w32 ((j : Int) + 1) = ((j + 1 : Nat) : Int) := w32_s j3
      have h0 : (0 % 2 : Int) = 0 := rfl
      by_cases q : gI ρ 105 j = 0
      · rw [if_neg (not_not_intro q)] at t1
        have ha : iAnd (gI ρ 104 j) 1 % 2 = gI ρ 104 j % 2 := by
          rw [iAnd1]
          omega
        rw [e551_158, if_neg nl]
        simp only [Option.getD_some, Option.bind_some, Option.toList_some, Option.toList_none, List.cons_append, List.nil_append, and_self, and_true, true_and, false_and, and_false, ite_self, not_true_eq_false, not_false_eq_true, reduceIte, Nat.reduceEqDiff, ab_I, ab_L, ab_R, ao_I, ao_L, ao_R, gL_sL, gI_sI, gR_sR, gI_sL, gI_sR, gL_sI, gL_sR, gR_sI, gR_sL, g_104, g_105, bj.1, bj.2, Int.toNat_natCast, q, not_true_eq_false, if_false, e551_189, ha, h0, ww]
        exact t1
      · rw [if_pos q] at t1
        have ha : iAnd (gI ρ 104 j) 0 % 2 = 0 := by
          rw [iAnd_0]
          rfl
        rw [e551_158, if_neg nl]
        simp only [Option.getD_some, Option.bind_some, Option.toList_some, Option.toList_none, List.cons_append, List.nil_append, and_self, and_true, true_and, false_and, and_false, ite_self, not_true_eq_false, not_false_eq_true, reduceIte, Nat.reduceEqDiff, ab_I, ab_L, ab_R, ao_I, ao_L, ao_R, gL_sL, gI_sI, gR_sR, gI_sL, gI_sR, gL_sI, gL_sR, gR_sI, gR_sL, g_104, g_105, bj.1, bj.2, Int.toNat_natCast, q, not_false_eq_true, if_true, e551_189, ha, h0, ww]
        exact t1
    · rw [t3]
      by_cases q1 : k = 104 ∧ j ≤ t ∧ t < 256
      · rw [if_pos q1]
        by_cases q2 : t = j
        · rw [if_neg (by omega), if_neg (by omega), gI_sI, if_neg (by omega), gI_sI, if_pos ⟨q1.1, q2⟩, q2]
        · have f5 : gI (sI (sI ρ 104 j (if ¬ gI ρ 105 j = 0 then 0 else gI ρ 104 j % 2)) 105 j 0) 105 t = gI ρ 105 t := by rw [gI_sI, if_neg (by omega), gI_sI, if_neg (by omega)]
          have f4 : gI (sI (sI ρ 104 j (if ¬ gI ρ 105 j = 0 then 0 else gI ρ 104 j % 2)) 105 j 0) 104 t = gI ρ 104 t := by rw [gI_sI, if_neg (by omega), gI_sI, if_neg (by omega)]
          rw [if_pos (by omega), f5, f4]
      · rw [if_neg q1, if_neg (by omega)]
        by_cases q2 : k = 105 ∧ j ≤ t ∧ t < 256
        · rw [if_pos q2]
          by_cases q3 : t = j
          · rw [if_neg (by omega), gI_sI, if_pos ⟨q2.1, q3⟩]
          · rw [if_pos (by omega)]
        · rw [if_neg q2, if_neg (by omega), gI_sI, if_neg (by omega), gI_sI, if_neg (by omega)]
/-- RUN, in whole -/
theorem T551 (hX : cmX) {N s0 : Nat} (hs : s0 < 8) (h85 : ¬ gI σ 85 s0 = 0) (hw : 0 ≤ x2 ∧ x2 ≤ 1) (hE : EC σ E) (ht : taR σ) (wl : wldR σ W) (hI : invW W) (hN : N < 99000) (e : rnT RB RH E RT (prR σ) sloW N (s0 : Int) (st0 (bgW W (s0 : Int))) = some r) :
    ∃ (j : Nat) (τ : MS), MM 551 [mR (some 80), mI (s0 : Int), mI x2] σ = some (some (mI (j : Int)), τ) ∧ j ≤ N ∧ (cW r).2.2 = W.2.2 + BitVec.ofNat 64 j ∧ wldR τ (edW (cW r)) ∧ invW (cW r) ∧ gL τ 80 109 = (rdR r 0).2 ∧ gI τ 80 54 = 0
    ∧ (∀ k s, ¬ movK k s → ¬ (k = 80 ∧ s = 54) → gI τ k s = gI σ k s) ∧ (∀ k s, ¬ k = 146 → ¬ (k = 80 ∧ (s = 108 ∨ s = 109 ∨ s = 111)) → gL τ k s = gL σ k s) ∧ τ.2.2 = σ.2.2 := by
  have b0 : 0 ≤ (s0 : Int) ∧ (s0 : Int) < 8 := by omega
  have n2 : ¬ x2 < 0 := by omega
  -- the begin
  obtain ⟨σ1, h1⟩ : ∃ σ1, σ1 = sI (sI (sI (sI (sI σ 80 54 1) 80 122 (s0 : Int)) 80 123 0) 80 110 0) 80 117 0 := ⟨_, rfl⟩
  have g1 : ∀ k t, gI σ1 k t = if k = 80 ∧ t = 117 then 0 else if k = 80 ∧ t = 110 then 0 else if k = 80 ∧ t = 123 then 0 else if k = 80 ∧ t = 122 then (s0 : Int) else if k = 80 ∧ t = 54 then 1 else gI σ k t := fun k t => by rw [h1, gI_sI, gI_sI, gI_sI, gI_sI, gI_sI]
  have l1 : ∀ k t, gL σ1 k t = gL σ k t := fun k t => by rw [h1]; rfl
  have g17 : gI σ1 80 117 = ((0 : Nat) : Int) := by rw [g1, if_pos ⟨rfl, rfl⟩]; rfl
  obtain ⟨σ2, t2, p1, p2, p3, p4, p5⟩ := T552 g17 (by decide)
  obtain ⟨σ3, h3⟩ : ∃ σ3, σ3 = sL σ2 146 1 (enR (1, 0#64)) := ⟨_, rfl⟩
  have g2 : ∀ k t, gI σ2 k t = gI σ1 k t := fun k t => by unfold gI; rw [p3]
  have key : ∀ (f j : Nat), j + f = 64 → RR (lkB tb551) (B551_69, [some (mR (some 80)), some (mI (s0 : Int)), some (mI x2), some (mI (j : Int)), none], [], wzS σ3 152 0 (List.replicate j 0)) = RR (lkB tb551) (B551_95, [some (mR (some 80)), some (mI (s0 : Int)), some (mI x2), some (mI 0), none], [], sI (wzS σ3 152 0 (List.replicate 64 0)) 80 124 1) := by
    intro f
    induction f with
    | zero =>
      intro j z
      have z : j = 64 := by omega
      subst z
      rw [e551_69, if_pos (by decide)]
    | succ f ih =>
      intro j z
      have nl : ¬ 64 ≤ (j : Int) := by omega
      have bj : 0 ≤ (j : Int) ∧ (j : Int) < 64 := by omega
      have j3 : j < 100000 := by omega
      have z2 := ih (j + 1) (by omega)
      rw [List.replicate_succ', wzS_s, List.length_replicate, Nat.zero_add] at z2
      have ww : w32 ((j : Int) + 1) = ((j + 1 : Nat) : Int) := w32_s j3
      have h0 : (0 % 2 : Int) = 0 := rfl
      rw [e551_69, if_neg nl]
      simp only [Option.getD_some, Option.bind_some, Option.toList_some, Option.toList_none, List.cons_append, List.nil_append, and_self, and_true, true_and, false_and, and_false, ite_self, not_true_eq_false, not_false_eq_true, reduceIte, Nat.reduceEqDiff, ab_I, ab_L, ab_R, ao_I, ao_L, ao_R, gL_sL, gI_sI, gR_sR, gI_sL, gI_sR, gL_sI, gL_sR, gR_sI, gR_sL, g_152, bj.1, bj.2, Int.toNat_natCast, h0, ww]
      exact z2
  have k0 := key 64 0 (by omega)
  have k0 : RR (lkB tb551) (B551_69, [some (mR (some 80)), some (mI (s0 : Int)), some (mI x2), some (mI 0), none], [], σ3) = _ := k0
  obtain ⟨ρ, hρ⟩ : ∃ ρ, ρ = sI (wzS σ3 152 0 (List.replicate 64 0)) 80 124 1 := ⟨_, rfl⟩
  have gr : ∀ k t, gI ρ k t = if k = 80 ∧ t = 124 then 1 else if k = 152 ∧ t < 64 then 0 else gI σ1 k t := fun k t => by
    rw [hρ, gI_sI, wzS_g, List.length_replicate, h3, gI_sL, g2]
    by_cases q : k = 80 ∧ t = 124
    · rw [if_pos q, if_pos q]
    · rw [if_neg q, if_neg q]
      by_cases q1 : k = 152 ∧ t < 64
      · rw [if_pos (by omega), if_pos q1, List.getD_eq_getElem?_getD, List.getElem?_eq_getElem (by rw [List.length_replicate]; omega), List.getElem_replicate]
        rfl
      · rw [if_neg (by omega), if_neg q1]
  have l3 : ∀ k t, gL ρ k t = gL σ3 k t := fun k t => by
    rw [hρ, gL_sI]
    exact gL_2 (wzS_2 _ _ _) _ _
  have lr : ∀ k t, ¬ k = 146 → gL ρ k t = gL σ k t := fun k t z => by
    rw [l3, h3, gL_sL, if_neg (fun q => z q.1), p2 k t z, l1]
  have s0' : MM 551 [mR (some 80), mI (s0 : Int), mI x2] σ = RR (lkB tb551) (B551_95, [some (mR (some 80)), some (mI (s0 : Int)), some (mI x2), some (mI 0), none], [], ρ) := by
    have t1 := T331 (σ := σ) hs
    rw [M551, e551_0, t1]
    simp only [Option.getD_some, Option.bind_some, Option.toList_some, Option.toList_none, List.cons_append, List.nil_append, and_self, and_true, true_and, false_and, and_false, ite_self, not_true_eq_false, not_false_eq_true, reduceIte, Nat.reduceEqDiff, ab_I, ab_L, ab_R, ao_I, ao_L, ao_R, gL_sL, gI_sI, gR_sR, gI_sL, gI_sR, gL_sI, gL_sR, gR_sI, gR_sL, e551_4, show ¬ (1 : Int) = 0 by decide, if_false, g_85, b0.1, b0.2, Int.toNat_natCast, h85, n2, hw.2, if_true, e551_42]
    rw [← h1, t2]
    have ea : iL (1048576 * 1 + 524288 + 0) = enR (1, 0#64) := by
      show _ = enG adR (1, 0#64)
      rw [enG_n (show ¬ (1 : Nat) = 0 by decide), show (0#64 : B64) = BitVec.ofNat 64 0 from rfl, ad_i]
      rfl
    simp only [Option.getD_some, Option.bind_some, Option.toList_some, Option.toList_none, List.cons_append, List.nil_append, and_self, and_true, true_and, false_and, and_false, ite_self, not_true_eq_false, not_false_eq_true, reduceIte, Nat.reduceEqDiff, ab_I, ab_L, ab_R, ao_I, ao_L, ao_R, gL_sL, gI_sI, gR_sR, gI_sL, gI_sR, gL_sI, gL_sR, gR_sI, gR_sL, e551_56, T549, e551_66, g_146, Int.reduceLE, Int.reduceLT, ea]
    have : (1 : Int).toNat = 1 := rfl
    rw [this, ← h3, hρ]
    exact k0
  have mv : ∀ τ, mvR ρ τ → (∀ k s, ¬ movK k s → ¬ (k = 80 ∧ s = 54) → gI τ k s = gI σ k s) ∧ (∀ k s, ¬ k = 146 → ¬ (k = 80 ∧ (s = 108 ∨ s = 111)) → gL τ k s = gL σ k s) ∧ τ.2.2 = σ.2.2 := fun τ m => by
    refine ⟨fun k s z1 z2 => ?_, fun k s z1 z2 => (m.2.1 k s z1 z2).trans (lr k s z1), m.2.2.trans ?_⟩
    · rw [m.1 k s z1, gr, if_neg (by omega), if_neg (by omega), g1, if_neg (by omega), if_neg (by omega), if_neg (by omega), if_neg (by omega), if_neg (by omega)]
    · rw [hρ]
      show (wzS _ _ _ _).2.2 = _
      rw [wzS_2, h3]
      show σ2.2.2 = _
      rw [p4, h1]
      rfl
  have wr : wldR ρ (bgW W (s0 : Int)) := by
    refine ⟨fun k t p => ?_, ?_, ?_⟩
    · show (if k = 152 ∧ t < 64 then 0 else if k = 80 ∧ t = 110 then 0 else if k = 80 ∧ t = 122 then (s0 : Int) else W.1 k t) = _
      have d1 : ¬ (k = 80 ∧ t = 124) := by omega
      have d2 : ¬ (k = 80 ∧ t = 117) := by omega
      have d3 : ¬ (k = 80 ∧ t = 123) := by omega
      have d4 : ¬ (k = 80 ∧ t = 54) := by omega
      rw [gr, if_neg d1, g1, if_neg d2, if_neg d3, if_neg d4, ← wl.1 k t p]
    · show W.2.1 = _
      rw [lr _ _ (by decide)]
      exact wl.2.1
    · show W.2.2 = _
      rw [lr _ _ (by decide)]
      exact wl.2.2
  have rel : RelR ρ (st0 (bgW W (s0 : Int))) := by
    refine ⟨⟨⟨Nat.le_refl 1, (show 1 ≤ 4 by decide)⟩, ?_⟩, ⟨fun f r hf hr => ?_, fun f hf => ?_⟩, fun f b hf hb => ⟨fun z => absurd z (show ¬ (0 : Nat) = 1 by decide), fun z => absurd z (show ¬ 2 ≤ (0 : Nat) by decide)⟩, fun f f1 f2 => ?_, wr⟩
    · show gI ρ 80 117 = ((1 : Nat) : Int) - 1
      rw [gr, if_neg (by omega), if_neg (by omega), g17]
      rfl
    · have hf : f < 1 := hf
      show vlR _ (11 * f + r) (if f = 0 ∧ r = 1 then (1, 0#64) else nilR)
      by_cases q1 : f = 0 ∧ r = 1
      · rw [if_pos q1]
        refine ⟨⟨fun _ => rfl, fun z => absurd z (show ¬ 8 ≤ (1 : Nat) by decide), by decide⟩, fun _ => ?_⟩
        rw [l3, h3, gL_sL, if_pos ⟨rfl, by omega⟩]
      · rw [if_neg q1]
        exact ⟨okSV_n, fun z => absurd (show nilR.1 = 6 from rfl) z⟩
    · have hf : f < 1 := hf
      have f0 : f = 0 := by omega
      subst f0
      rw [l3, h3, gL_sL, if_neg (by omega)]
      exact p5
    · have f2 : f < 1 := f2
      omega
  have m0 := mv ρ mvR_r
  have pe : prR ρ = prR σ := by
    funext a b
    exact lr _ _ (by decide)
  have E1 : EC ρ E := fun m hm => by
    rw [m0.1 97 m (by omega) (by omega), m0.1 98 m (by omega) (by omega)]
    exact hE m hm
  have t1 : taR ρ := fun s a1 a2 a3 => by
    rw [m0.1 85 _ (by omega) (by omega)] at a3
    rw [pe]
    exact ht s a1 a2 a3
  obtain ⟨G, hP, gg, hr⟩ := ht (s0 : Int) b0.1 b0.2 (by rw [Int.toNat_natCast]; exact h85)
  rw [← pe] at e hP
  obtain ⟨τ, j, a1, a2, a3, a4, a5, a6, a7, a8⟩ := L551 (x1 := (s0 : Int)) (x2 := x2) hX E1 (by rw [gr, if_neg (by omega), if_neg (by omega), g1, if_neg (by omega), if_neg (by omega), if_neg (by omega), if_neg (by omega), if_pos ⟨rfl, rfl⟩]) t1 N (s0 : Int) (st0 (bgW W (s0 : Int))) r ρ 0 mvR_r rel (bgW_inv hI) (by rw [gr, if_pos ⟨rfl, rfl⟩]) (by rw [gr, if_neg (by omega), if_neg (by omega), g1, if_neg (by omega), if_neg (by omega), if_pos ⟨rfl, rfl⟩]; rfl) (by rw [gr, if_neg (by omega), if_neg (by omega), g1, if_neg (by omega), if_neg (by omega), if_neg (by omega), if_pos ⟨rfl, rfl⟩]) b0 ⟨G, hP, ⟨Nat.le_refl 1, gg, fun f f1 f2 => by
    have f2 : f < 1 := f2
    omega⟩, hr⟩ (by omega) e
  obtain ⟨υ, b1, b2, b3⟩ := L551z (x1 := (s0 : Int)) (x2 := x2) (x3 := (j : Int)) 256 0 (sI (sL τ 80 109 (gL τ 146 0)) 80 54 0) (by omega)
  have mf := mv τ a6
  have lu : ∀ k t, ¬ (k = 80 ∧ t = 109) → gL υ k t = gL τ k t := fun k t z => by
    rw [gL_2 b2, gL_sI, gL_sL, if_neg z]
  have wt := RelR_wld a4
  refine ⟨j, υ, ?_, by omega, ?_, ⟨fun k t p => ?_, ?_, ?_⟩, a5, ?_, ?_, fun k t z1 z2 => ?_, fun k t z1 z2 => ?_, ?_⟩
  · have a1 : RR (lkB tb551) (B551_95, [some (mR (some 80)), some (mI (s0 : Int)), some (mI x2), some (mI 0), none], [], ρ) = _ := a1
    rw [s0', a1, e551_95, if_pos a7]
    simp only [Option.getD_some, Option.bind_some, Option.toList_some, Option.toList_none, List.cons_append, List.nil_append, and_self, and_true, true_and, false_and, and_false, ite_self, not_true_eq_false, not_false_eq_true, reduceIte, Nat.reduceEqDiff, ab_I, ab_L, ab_R, ao_I, ao_L, ao_R, gL_sL, gI_sI, gR_sR, gI_sL, gI_sR, gL_sI, gL_sR, gR_sI, gR_sL, g_146, Int.reduceLE, Int.reduceLT]
    exact b1
  · rw [a3, Nat.sub_zero]
    rfl
  · show (if k = 104 ∧ t < 256 then (if ¬ wg (cW r) 105 t = 0 then 0 else wg (cW r) 104 t % 2) else if k = 105 ∧ t < 256 then 0 else wg (cW r) k t) = _
    have q5 : gI (sI (sL τ 80 109 (gL τ 146 0)) 80 54 0) 105 t = wg (cW r) 105 t := by
      rw [gI_sI, if_neg (by omega), gI_sL]
      exact (wt.1 105 t (by omega)).symm
    have q4 : gI (sI (sL τ 80 109 (gL τ 146 0)) 80 54 0) 104 t = wg (cW r) 104 t := by
      rw [gI_sI, if_neg (by omega), gI_sL]
      exact (wt.1 104 t (by omega)).symm
    by_cases z1 : k = 104 ∧ t < 256
    · rw [if_pos z1, b3, if_pos (show k = 104 ∧ 0 ≤ t ∧ t < 256 from ⟨z1.1, Nat.zero_le _, z1.2⟩), q5, q4]
    · rw [if_neg z1, b3, if_neg (show ¬ (k = 104 ∧ 0 ≤ t ∧ t < 256) from fun z => z1 ⟨z.1, z.2.2⟩)]
      by_cases z2 : k = 105 ∧ t < 256
      · rw [if_pos z2, if_pos (show k = 105 ∧ 0 ≤ t ∧ t < 256 from ⟨z2.1, Nat.zero_le _, z2.2⟩)]
      · rw [if_neg z2, if_neg (show ¬ (k = 105 ∧ 0 ≤ t ∧ t < 256) from fun z => z2 ⟨z.1, z.2.2⟩), gI_sI, if_neg (by omega), gI_sL]
        exact wt.1 k t p
  · show (cW r).2.1 = _
    rw [lu _ _ (by omega)]
    exact wt.2.1
  · show (cW r).2.2 = _
    rw [lu _ _ (by omega)]
    exact wt.2.2
  · rw [gL_2 b2, gL_sI, gL_sL, if_pos ⟨rfl, rfl⟩]
    exact a8
  · rw [b3, if_neg (by omega), if_neg (by omega), gI_sI, if_pos ⟨rfl, rfl⟩]
  · rw [b3, if_neg (by omega), if_neg (by omega), gI_sI, if_neg (by omega), gI_sL]
    exact mf.1 k t z1 z2
  · rw [lu _ _ (by omega)]
    exact mf.2.1 k t z1 (by omega)
  · rw [b2]
    exact mf.2.2
end RRUN
