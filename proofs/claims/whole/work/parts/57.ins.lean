/-! ===== the reference's judge: a step ===== -/
def xK (w : WK) : Int → Option ST := fun i => if i = yA w then some (yS w) else w.2.2.2.2.2 i
section INSP
variable {E : EV} {p : Int → B64} {w : WK} {n g t' : Int} {S S2 : ST} {b : WY}
theorem ins_g (h : yG w = 4000) : insK E p w = (12, false, w) := if_pos h
theorem ins_f (c : ¬ yG w = 4000) (z : ¬ (stpJ E (yS w) (yA w) (p (yA w)) (p (yA w + 1)) (yT w)).1 = 0) : insK E p w = ((stpJ E (yS w) (yA w) (p (yA w)) (p (yA w + 1)) (yT w)).1, false, ((yS w, yA w, yK w, yF w + 1, yG w + 1, yT w), w.2.1, w.2.2.1, w.2.2.2.1, w.2.2.2.2.1, xK w)) := by
  unfold insK xK
  rw [if_neg c]
  simp only [z, not_false_eq_true, if_true]
theorem ins_1 (c : ¬ yG w = 4000) (e : stpJ E (yS w) (yA w) (p (yA w)) (p (yA w + 1)) (yT w) = (0, some (n, S), none, t')) : insK E p w = (0, false, ((S, n, yK w, yF w + 1, yG w + 1, t'), w.2.1, w.2.2.1, w.2.2.2.1, max w.2.2.2.2.1 (sF S : Int), xK w)) := by
  unfold insK xK
  rw [if_neg c, e]
  simp only [not_true_eq_false, if_false]
theorem ins_2 (c : ¬ yG w = 4000) (m : ¬ yM w = 60) (e : stpJ E (yS w) (yA w) (p (yA w)) (p (yA w + 1)) (yT w) = (0, some (n, S), some (g, S2), t')) : insK E p w = (0, false, ((S, n, yK w, yF w + 1, yG w + 1, t'), (yNn w, upK (yH w) (yK w) (kS (yH w (yK w)), kA (yH w (yK w)), kB (yH w (yK w)), kF (yH w (yK w)), kW (yH w (yK w)) + 1, kL (yH w (yK w)))), (yM w + 1, fun j => if j = yM w then (S2, g, yK w, yF w + 1) else yW w j), max w.2.2.2.1 ((yM w : Int) + 1), w.2.2.2.2.1, xK w)) := by
  unfold insK xK
  rw [if_neg c, e]
  simp only [not_true_eq_false, if_false, m]
theorem ins_6 (c : ¬ yG w = 4000) (m : yM w = 60) (e : stpJ E (yS w) (yA w) (p (yA w)) (p (yA w + 1)) (yT w) = (0, some (n, S), some (g, S2), t')) : insK E p w = (12, false, ((yS w, yA w, yK w, yF w + 1, yG w + 1, yT w), w.2.1, w.2.2.1, w.2.2.2.1, w.2.2.2.2.1, xK w)) := by
  unfold insK xK
  rw [if_neg c, e]
  simp only [not_true_eq_false, if_false, m, if_true]
theorem ins_e (c : ¬ yG w = 4000) (e : stpJ E (yS w) (yA w) (p (yA w)) (p (yA w + 1)) (yT w) = (0, none, b, t')) : insK E p w = (0, true, ((yS w, yA w, yK w, yF w + 1, yG w + 1, t'), (yNn w, endK (yH w) (yK w) (yF w + 1)), w.2.2.1, w.2.2.2.1, w.2.2.2.2.1, xK w)) := by
  unfold insK xK
  rw [if_neg c, e]
  simp only [not_true_eq_false, if_false]
theorem cnt_le (q : Nat → Bool) : ∀ n : Nat, cnt n q ≤ n := by
  intro n
  induction n with
  | zero => exact Int.le_refl _
  | succ n ih =>
    rw [cnt_s]
    split <;> omega
/-- bounds of what is kept -/
theorem inv_B {D : Nat → Int} {G : Int → Prop} {S0 : ST} (h : INV dumB dumH E p id S0 G w D) (X : exI w) : KB (yH w) (yNn w) 4000 ∧ (yK w < yNn w ∧ yNn w ≤ 250 ∧ 1 ≤ yNn w) ∧ (0 ≤ yF w ∧ yF w ≤ yG w ∧ yG w ≤ 4000) := by
  obtain ⟨⟨i1, i2, i3⟩, i4, -, ⟨-, -, -, -, o5⟩, ⟨b1, -, -, -, b5, b6⟩, -⟩ := h
  obtain ⟨⟨-, x2, -⟩, ⟨x4, -, -⟩, -⟩ := X
  obtain ⟨⟨n1, n2⟩, -, pp⟩ := i2
  have D0 : ∀ (d k : Nat), k < d → k < yNn w → 0 ≤ D k := by
    intro d
    induction d with
    | zero => intro k h; omega
    | succ d ih =>
      intro k hd hk
      obtain ⟨⟨q1, q2, q3⟩, q4, q5⟩ := pp k hk
      by_cases z : 0 ≤ kB (yH w k)
      · rw [i3.2 k hk z]
        have := ih (kB (yH w k)).toNat (by omega) (by omega)
        omega
      · have k0 : k = 0 := by omega
        rw [k0, i3.1]
        exact Int.le_refl _
  have Dk := D0 (yK w + 1) (yK w) (by omega) i1
  refine ⟨fun k hk => ?_, ⟨i1, n2, n1⟩, by omega⟩
  obtain ⟨⟨q1, q2, q3⟩, q4, q5⟩ := pp k hk
  have dk := D0 (k + 1) k (by omega) hk
  have e := i4 k hk
  have c1 := cnt_le (wai (yW w) k) (yM w)
  have c2 := cnt_le (chd (yH w) 1000 k) (yNn w)
  have c3 := cnt_ge (wai (yW w) k) (yM w)
  have c4 := cnt_ge (chd (yH w) 1000 k) (yNn w)
  have x2 := (x2 k hk).2
  have c5 : 0 ≤ (if yK w = k then (1 : Int) else 0) ∧ (if yK w = k then (1 : Int) else 0) ≤ 1 := by split <;> omega
  refine ⟨⟨q2, q1⟩, ⟨q4, x2⟩, ⟨q5, ?_⟩, by omega, by omega⟩
  by_cases z : 0 < kW (yH w k)
  · have := b5 k hk z
    omega
  · have := b6 k hk (by omega)
    omega
end INSP
/-- what is behind a step -/
def stE (σ τ : MS) (E : EV) (p : Int → B64) (w : WK) : Prop := wq τ σ ∧
  (¬ (insK E p w).1 = 0 → gI τ 80 90 = (insK E p w).1 ∧ gI τ 80 87 = yA w ∧ RTd τ (insK E p w).2.2) ∧
  ((insK E p w).1 = 0 → gI τ 80 90 = 0 ∧ RK τ (insK E p w).2.2 ∧ ((insK E p w).2.1 = true → gI τ 80 89 = 1) ∧ ((insK E p w).2.1 = false → gI τ 80 89 = 0 ∧ RN τ (insK E p w).2.2 ∧ gI τ 80 88 = yA (insK E p w).2.2))
section STEP
variable {σ τ ρ : MS} {E : EV} {p : Int → B64} {w : WK} {G : Int → Prop} {S0 : ST} {D : Nat → Int} {a : Nat}
theorem KN_up {x : Int → Option ST} {S : ST} (ha : a < 200) (r : KN σ x) (hg : ∀ k s, k = 139 ∧ ¬ s = a ∨ k = 141 ∧ ¬ (40 * a ≤ s ∧ s < 40 * a + 40) → gI τ k s = gI σ k s) (hl : ∀ s, ¬ (60 * a ≤ s ∧ s < 60 * a + 60) → gL τ 140 s = gL σ 140 s) (h : KN1 τ a S) : KN τ (fun i => if i = (a : Int) then some S else x i) := fun i hi => by
  by_cases e : i = a
  · subst e
    refine ⟨fun S' q => ?_, fun q => ?_⟩
    · have q : (if (i : Int) = (i : Int) then some S else x i) = some S' := q
      rw [if_pos rfl] at q
      cases q
      exact h
    · have q : (if (i : Int) = (i : Int) then some S else x i) = none := q
      rw [if_pos rfl] at q
      cases q
  · have ne : ¬ (i : Int) = (a : Int) := by omega
    obtain ⟨r1, r2⟩ := r i hi
    refine ⟨fun S' q => ?_, fun q => ?_⟩
    · have q : (if (i : Int) = (a : Int) then some S else x i) = some S' := q
      rw [if_neg ne] at q
      obtain ⟨q1, q2⟩ := r1 S' q
      refine ⟨(hg _ _ (Or.inl ⟨rfl, e⟩)).trans q1, fun r hr => ?_⟩
      rw [hl _ (by omega), hl _ (by omega), hl _ (by omega), hl _ (by omega), hl _ (by omega), hl _ (by omega), hg _ _ (Or.inr ⟨rfl, by omega⟩), hg _ _ (Or.inr ⟨rfl, by omega⟩), hg _ _ (Or.inr ⟨rfl, by omega⟩), hg _ _ (Or.inr ⟨rfl, by omega⟩)]
      exact q2 r hr
    · have q : (if (i : Int) = (a : Int) then some S else x i) = none := q
      rw [if_neg ne] at q
      exact (hg _ _ (Or.inl ⟨rfl, e⟩)).trans (r2 q)
/-- how a step begins: it is counted, what is known is told -/
def begS (σ : MS) (w : WK) (a : Nat) : MS := sI (recN (sI (sI (sI σ 80 84 (yG w + 1)) 138 1 (yG w + 1)) 80 83 (yF w + 1)) (yS w) a 10) 80 89 0
theorem bs_I {k s : Nat} (h1 : ¬ (k = 80 ∧ (s = 83 ∨ s = 84 ∨ s = 89))) (h2 : ¬ (k = 138 ∧ s = 1)) (h3 : ¬ (k = 139 ∧ s = a)) (h4 : ¬ (k = 141 ∧ 40 * a ≤ s ∧ s < 40 * a + 40)) : gI (begS σ w a) k s = gI σ k s := by
  unfold begS
  rw [gI_sI, if_neg (by omega), rc_I 10 (Nat.le_refl _) h3 h4, gI_sI, if_neg (by omega), gI_sI, if_neg (by omega), gI_sI, if_neg (by omega)]
theorem bs_L {k s : Nat} (h : ¬ (k = 140 ∧ 60 * a ≤ s ∧ s < 60 * a + 60)) : gL (begS σ w a) k s = gL σ k s := by
  unfold begS
  rw [gL_sI, rc_L 10 (Nat.le_refl _) h, gL_sI, gL_sI, gL_sI]
theorem bs_J {i : Nat} {S : ST} (j : JSt σ i S) : JSt (begS σ w a) i S := JSt_fr (fun k s h1 h2 => bs_I (by omega) (by omega) (by omega) (by omega)) (fun k s h1 h2 => bs_L (by omega)) j
theorem bs_v : gI (begS σ w a) 80 83 = yF w + 1 ∧ gI (begS σ w a) 80 84 = yG w + 1 ∧ gI (begS σ w a) 80 89 = 0 ∧ gI (begS σ w a) 138 1 = yG w + 1 := by
  unfold begS
  refine ⟨?_, ?_, ?_, ?_⟩
  · rw [gI_sI, if_neg (by omega), rc_I 10 (Nat.le_refl _) (by omega) (by omega), gI_sI, if_pos ⟨rfl, rfl⟩]
  · rw [gI_sI, if_neg (by omega), rc_I 10 (Nat.le_refl _) (by omega) (by omega), gI_sI, if_neg (by omega), gI_sI, if_neg (by omega), gI_sI, if_pos ⟨rfl, rfl⟩]
  · rw [gI_sI, if_pos ⟨rfl, rfl⟩]
  · rw [gI_sI, if_neg (by omega), rc_I 10 (Nat.le_refl _) (by omega) (by omega), gI_sI, if_neg (by omega), gI_sI, if_pos ⟨rfl, rfl⟩]
theorem bs_k : KN1 (begS σ w a) a (yS w) := by
  have h := rc_K (σ := sI (sI (sI σ 80 84 (yG w + 1)) 138 1 (yG w + 1)) 80 83 (yF w + 1)) (S := yS w) (i := a)
  unfold begS
  obtain ⟨h1, h2⟩ := h
  refine ⟨by rw [gI_sI, if_neg (by omega)]; exact h1, fun r hr => ?_⟩
  rw [gL_sI, gL_sI, gL_sI, gL_sI, gL_sI, gL_sI, gI_sI, if_neg (by omega), gI_sI, if_neg (by omega), gI_sI, if_neg (by omega), gI_sI, if_neg (by omega)]
  exact h2 r hr
theorem bs_wq : wq (begS σ w a) σ := ⟨fun k s p => bs_I (by omega) (by omega) (by omega) (by omega), fun k s p => bs_L (by omega), rc_r 10⟩
theorem L495b (ha : gI σ 80 87 = (a : Int)) (hi : a < 200) (hs : okSl σ) (hG : gI σ 80 84 = yG w) (hF : gI σ 80 83 = yF w) (c : ¬ yG w = 4000) (g4 : 0 ≤ yG w ∧ yG w ≤ 4000) (f4 : 0 ≤ yF w ∧ yF w ≤ 4000) (hJ : J0 σ (yS w)) (hS : 1 ≤ sF (yS w) ∧ sF (yS w) ≤ 4) : MM 495 [mR (some 80)] σ = RR (lkB tb495) (B495_73, [some (mR (some 80)), some (mL (wdA σ a)), none, none], [mI (fOp (wdA σ a))], begS σ w a) := by
  have a7 : gI (begS σ w a) 80 87 = (a : Int) := by rw [bs_I (by omega) (by omega) (by omega) (by omega)]; exact ha
  have sl : okSl (begS σ w a) := by
    unfold okSl jsA at *
    rw [bs_I (by omega) (by omega) (by omega) (by omega), bs_I (by omega) (by omega) (by omega) (by omega)]
    exact hs
  have wd : wdA (begS σ w a) a = wdA σ a := by
    unfold wdA jsA
    rw [bs_I (by omega) (by omega) (by omega) (by omega), bs_L (by omega)]
  have t4 := T474 sl hi
  rw [wd] at t4
  have t0 := T490 (σ := sI (sI (sI σ 80 84 (yG w + 1)) 138 1 (yG w + 1)) 80 83 (yF w + 1)) (i := a) (JSt_sI (by omega) (JSt_sI (by omega) (JSt_sI (by omega) hJ))) hS hi
  have w1 : w32 (yG w + 1) = yG w + 1 := w32_i (by omega) (by omega)
  have w2 : w32 (yF w + 1) = yF w + 1 := w32_i (by clear w1; omega) (by clear w1; omega)
  have e47 : MM 495 [mR (some 80)] σ = RR (lkB tb495) (B495_55, [some (mR (some 80)), none, none, none], [], recN (sI (sI (sI σ 80 84 (yG w + 1)) 138 1 (yG w + 1)) 80 83 (yF w + 1)) (yS w) a 10) := by
    simp only [M495, e495_0, e495_47, Option.getD_some, Option.bind_some, Option.toList_some, Option.toList_none, List.cons_append, List.nil_append, and_self, and_true, true_and, false_and, and_false, ite_self, not_true_eq_false, not_false_eq_true, reduceIte, Nat.reduceEqDiff, ab_I, ab_L, ab_R, ao_I, ao_L, ao_R, gL_sL, gI_sI, gR_sR, gI_sL, gI_sR, gL_sI, gL_sR, gR_sI, gR_sL, hG, c, g_138, Int.reduceLT, Int.reduceLE, show (1 : Int).toNat = 1 from rfl, w1, hF, w2, ha, t0]
  rw [e47, e495_55]
  show ((MM 474 [mR (some 80), mI (gI (begS σ w a) 80 87)] (begS σ w a)).bind fun q => RR (lkB tb495) (B495_68, [some (mR (some 80)), none, none, none], q.1.toList ++ [], q.2)) = _
  rw [a7, t4]
  simp only [e495_68, Option.getD_some, Option.bind_some, Option.toList_some, Option.toList_none, List.cons_append, List.nil_append, and_self, and_true, true_and, false_and, and_false, ite_self, not_true_eq_false, not_false_eq_true, reduceIte, Nat.reduceEqDiff, ab_I, ab_L, ab_R, ao_I, ao_L, ao_R, gL_sL, gI_sI, gR_sR, gI_sL, gI_sR, gL_sI, gL_sR, gR_sI, gR_sL, T332]
end STEP
