/-! ===== the reference's judge: THE WALK ===== -/
/-- what the walk finds there and leaves alone -/
def stS (σ : MS) (E : EV) (p : Int → B64) (J : Int → Bool) : Prop := EO σ E ∧ okSl σ ∧ (∀ i : Nat, i < 200 → p i = wdA σ i) ∧ ∀ i : Nat, i < 200 → (J i = true ↔ ¬ gI σ 136 i = 0)
def RWx (σ : MS) (w : WK) : Prop := RN σ w ∧ gI σ 80 87 = yA w ∧ gI σ 80 90 = 0 ∧ RK σ w
/-- the end of the walk -/
def fnE (σ τ : MS) (f : Int) (w : WK) : Prop := wq τ σ ∧ gI τ 80 90 = f ∧ RTd τ w ∧ (¬ f = 0 → gI τ 80 87 = yA w) ∧ (f = 0 → RK τ w)
/-- the way that waits last is at hand again -/
def poS (σ : MS) (w : WK) : MS := sI (sI (sI (cpS (sI σ 80 78 ((yM w - 1 : Nat) : Int)) (252 + (yM w - 1)) 0) 80 87 (wtA (yW w (yM w - 1)))) 80 82 (wtK (yW w (yM w - 1)) : Int)) 80 83 (wtF (yW w (yM w - 1)))
section WLK
variable {σ τ ρ : MS} {E : EV} {p : Int → B64} {J : Int → Bool} {w w' : WK} {G : Int → Prop} {S0 : ST} {D : Nat → Int} {f : Int}
theorem wq_st (h : wq τ σ) (s : stS σ E p J) : stS τ E p J := by
  obtain ⟨s1, s2, s3, s4⟩ := s
  have e86 : gI τ 80 86 = gI σ 80 86 := h.1 _ _ (by omega)
  refine ⟨fun m hm => ?_, ?_, fun i hi => ?_, fun i hi => ?_⟩
  · rw [h.1 _ _ (by omega), h.1 _ _ (by omega), h.1 _ _ (by omega), h.1 _ _ (by omega)]
    exact s1 m hm
  · unfold okSl jsA at *
    rw [e86, h.1 84 _ (by omega)]
    exact s2
  · rw [s3 i hi]
    unfold wdA jsA
    rw [e86, h.2.1 _ _ (by omega)]
  · rw [h.1 136 _ (by omega)]
    exact s4 i hi
theorem fnE_t (h : fnE ρ τ f w) (q : wq ρ σ) : fnE σ τ f w := ⟨wq_t h.1 q, h.2⟩
theorem L482w {M : Nat} (h : M < 61) (h0 : ¬ M = 0) : w32 ((M : Int) - 1) = ((M - 1 : Nat) : Int) := by
  rw [w32_i (by omega) (by omega)]
  omega
theorem L482v {M : Nat} (h : M < 61) : w32 (252 + (M : Int)) = ((252 + M : Nat) : Int) := by
  rw [w32_i (by omega) (by omega)]
  omega
/-- one more way is over -/
theorem L482c {x3 : Int} (h90 : gI σ 80 90 = 0) (hK : RK σ w) (N250 : yNn w ≤ 250) (M60 : yM w ≤ 60) (kK : ∀ k, k < yNn w → kst (kS (yH w k))) (kWt : ∀ j, j < yM w → kst (wtS (yW w j))) : (yM w = 0 → RR (lkB tb482) (B482_196, [some (mR (some 80)), some (mI 0), some (mI 0), some (mI x3)], [], σ) = some (none, σ)) ∧ (¬ yM w = 0 → ∀ P : MS → Prop, okc (RR (lkB tb482) (B482_121, [some (mR (some 80)), some (mI 0), some (mI 0), none], [], poS σ w)) none P → okc (RR (lkB tb482) (B482_196, [some (mR (some 80)), some (mI 0), some (mI 0), some (mI x3)], [], σ)) none P) ∧ (¬ yM w = 0 → wq (poS σ w) σ ∧ RWx (poS σ w) (popK w)) := by
  obtain ⟨⟨c1, c2, c3, c4⟩, kr, rows, wts, ⟨⟨d1, d2, d4, d5⟩, kn⟩⟩ := hK
  refine ⟨fun m0 => ?_, fun m0 P hP => ?_, fun m0 => ?_⟩
  · have g78 : gI σ 80 78 = 0 := by rw [c4, m0]; rfl
    rw [e482_196]
    simp only [e482_208, e482_293, Option.getD_some, Option.bind_some, Option.toList_some, Option.toList_none, List.cons_append, List.nil_append, and_self, and_true, true_and, false_and, and_false, ite_self, not_true_eq_false, not_false_eq_true, reduceIte, Nat.reduceEqDiff, ab_I, ab_L, ab_R, ao_I, ao_L, ao_R, gL_sL, gI_sI, gR_sR, gI_sL, gI_sR, gL_sI, gL_sR, gR_sI, gR_sL, g78, oneI]
    refine RR_q (ls := [some (mR (some 80)), some (mI 0), some (mI 1), none]) ?_ (by repeat (first | exact lq_nil | refine lq_cons (Or.inr rfl) ?_ | refine lq_cons (Or.inl rfl) ?_))
    rw [e482_121, if_pos (by decide)]
  · have n78 : ¬ (yM w : Int) = 0 := by omega
    have lM : yM w - 1 < yM w := by omega
    obtain ⟨q1, q2, q3, q4⟩ := wts _ lM
    have kM := kWt _ lM
    have j1 : JSt (sI σ 80 78 ((yM w - 1 : Nat) : Int)) (252 + (yM w - 1)) (wtS (yW w (yM w - 1))) := JSt_sI (by omega) q1
    have f4 := JSt_4 kM.1.2 kM.2.1 j1
    have t8 : MM 468 [mR (some 80), mI ((252 + (yM w - 1) : Nat) : Int), mI 0] (sI σ 80 78 ((yM w - 1 : Nat) : Int)) = some (none, cpS (sI σ 80 78 ((yM w - 1 : Nat) : Int)) (252 + (yM w - 1)) 0) := T468s (x := 252 + (yM w - 1)) (y := 0) (by omega) (by omega) (by omega) kM j1
    have r78 : gI (cpS (sI σ 80 78 ((yM w - 1 : Nat) : Int)) (252 + (yM w - 1)) 0) 80 78 = ((yM w - 1 : Nat) : Int) := by
      rw [cp_I f4 (by omega), gI_sI, if_pos ⟨rfl, rfl⟩]
    have r132 : gI (cpS (sI σ 80 78 ((yM w - 1 : Nat) : Int)) (252 + (yM w - 1)) 0) 132 (yM w - 1) = wtA (yW w (yM w - 1)) := by
      rw [cp_I f4 (by omega), gI_sI, if_neg (by omega)]
      exact q2
    have r133 : gI (cpS (sI σ 80 78 ((yM w - 1 : Nat) : Int)) (252 + (yM w - 1)) 0) 133 (yM w - 1) = (wtK (yW w (yM w - 1)) : Int) := by
      rw [cp_I f4 (by omega), gI_sI, if_neg (by omega)]
      exact q3
    have r134 : gI (cpS (sI σ 80 78 ((yM w - 1 : Nat) : Int)) (252 + (yM w - 1)) 0) 134 (yM w - 1) = wtF (yW w (yM w - 1)) := by
      rw [cp_I f4 (by omega), gI_sI, if_neg (by omega)]
      exact q4
    unfold poS at hP
    generalize cpS (sI σ 80 78 ((yM w - 1 : Nat) : Int)) (252 + (yM w - 1)) 0 = ρ at *
    have b0 : 0 ≤ ((yM w - 1 : Nat) : Int) ∧ ((yM w - 1 : Nat) : Int) < 60 := by omega
    have m61 : yM w < 61 := by omega
    have m62 : yM w - 1 < 61 := by omega
    rw [e482_196]
    simp only [e482_208, e482_236, e482_275, e482_293, Option.getD_some, Option.bind_some, Option.toList_some, Option.toList_none, List.cons_append, List.nil_append, and_self, and_true, true_and, false_and, and_false, ite_self, not_true_eq_false, not_false_eq_true, reduceIte, Nat.reduceEqDiff, ab_I, ab_L, ab_R, ao_I, ao_L, ao_R, gL_sL, gI_sI, gR_sR, gI_sL, gI_sR, gL_sI, gL_sR, gR_sI, gR_sL, c4, n78, L482w m61 m0, L482v m62, t8, g_132, g_133, g_134, r78, b0.1, b0.2, Int.toNat_natCast, r132, r133, r134]
    exact okc_q (by repeat (first | exact lq_nil | refine lq_cons (Or.inr rfl) ?_ | refine lq_cons (Or.inl rfl) ?_)) hP
  · have lM : yM w - 1 < yM w := by omega
    obtain ⟨q1, q2, q3, q4⟩ := wts _ lM
    have kM := kWt _ lM
    have j1 : JSt (sI σ 80 78 ((yM w - 1 : Nat) : Int)) (252 + (yM w - 1)) (wtS (yW w (yM w - 1))) := JSt_sI (by omega) q1
    have f4 := JSt_4 kM.1.2 kM.2.1 j1
    have jn : J0 (cpS (sI σ 80 78 ((yM w - 1 : Nat) : Int)) (252 + (yM w - 1)) 0) (wtS (yW w (yM w - 1))) := cp_J (by omega) (by omega) (by omega) kM.1 kM.2.1 j1
    have jo : ∀ (i : Nat) (T : ST), ¬ i = 0 → kst T → JSt σ i T → JSt (cpS (sI σ 80 78 ((yM w - 1 : Nat) : Int)) (252 + (yM w - 1)) 0) i T := fun i T h1 h2 h3 => cp_o f4 h1 h2.1.2 h2.2.1 (JSt_sI (by omega) h3)
    have go : ∀ k s, (k = 80 ∧ ¬ s = 78) ∨ (127 ≤ k ∧ k ≤ 141) → gI (cpS (sI σ 80 78 ((yM w - 1 : Nat) : Int)) (252 + (yM w - 1)) 0) k s = gI σ k s := fun k s q => by
      rw [cp_I f4 (by omega), gI_sI, if_neg (by omega)]
    have lo : ∀ s, gL (cpS (sI σ 80 78 ((yM w - 1 : Nat) : Int)) (252 + (yM w - 1)) 0) 140 s = gL σ 140 s := fun s => by
      rw [cp_L f4.1 (by omega), gL_sI]
    have r78 : gI (cpS (sI σ 80 78 ((yM w - 1 : Nat) : Int)) (252 + (yM w - 1)) 0) 80 78 = ((yM w - 1 : Nat) : Int) := by
      rw [cp_I f4 (by omega), gI_sI, if_pos ⟨rfl, rfl⟩]
    have wo : wq (cpS (sI σ 80 78 ((yM w - 1 : Nat) : Int)) (252 + (yM w - 1)) 0) σ := wq_t ⟨fun k s q => cp_I f4 (by omega), fun k s q => cp_L f4.1 (by omega), rfl⟩ (wq_sI (by omega))
    unfold poS
    generalize cpS (sI σ 80 78 ((yM w - 1 : Nat) : Int)) (252 + (yM w - 1)) 0 = ρ at *
    have gp : ∀ k s, ¬ (k = 80 ∧ (s = 87 ∨ s = 82 ∨ s = 83)) → gI (sI (sI (sI ρ 80 87 (wtA (yW w (yM w - 1)))) 80 82 (wtK (yW w (yM w - 1)) : Int)) 80 83 (wtF (yW w (yM w - 1)))) k s = gI ρ k s := fun k s q => by
      rw [gI_sI, if_neg (by omega), gI_sI, if_neg (by omega), gI_sI, if_neg (by omega)]
    refine ⟨wq_t (wq_sI (by omega)) (wq_t (wq_sI (by omega)) (wq_t (wq_sI (by omega)) wo)), ⟨JSt_sI (by omega) (JSt_sI (by omega) (JSt_sI (by omega) jn)), ?_, ?_⟩, ?_, ?_, ⟨⟨?_, ?_, ?_, ?_⟩, fun k hk => ?_, fun k hk => ?_, fun j hj => ?_, ⟨⟨?_, ?_, ?_, ?_⟩, KN_fr (fun k s q => (gp _ _ (by omega)).trans (go _ _ (by omega))) (fun s => lo s) kn⟩⟩⟩
    · rw [gI_sI, if_neg (by omega), gI_sI, if_pos ⟨rfl, rfl⟩]
      rfl
    · rw [gI_sI, if_pos ⟨rfl, rfl⟩]
      rfl
    · rw [gI_sI, if_neg (by omega), gI_sI, if_neg (by omega), gI_sI, if_pos ⟨rfl, rfl⟩]
      rfl
    · exact (gp _ _ (by omega)).trans ((go _ _ (by omega)).trans h90)
    · exact (gp _ _ (by omega)).trans ((go _ _ (by omega)).trans c1)
    · exact (gp _ _ (by omega)).trans ((go _ _ (by omega)).trans c2)
    · exact (gp _ _ (by omega)).trans ((go _ _ (by omega)).trans c3)
    · exact (gp _ _ (by omega)).trans r78
    · rw [gp _ _ (by omega), gp _ _ (by omega), gp _ _ (by omega), gp _ _ (by omega), gp _ _ (by omega), go _ _ (by omega), go _ _ (by omega), go _ _ (by omega), go _ _ (by omega), go _ _ (by omega)]
      exact kr k hk
    · exact JSt_sI (by omega) (JSt_sI (by omega) (JSt_sI (by omega) (jo (1 + k) _ (by omega) (kK k hk) (rows k hk))))
    · have hj : j < yM w - 1 := hj
      have hj2 : j < yM w := by omega
      obtain ⟨u1, u2, u3, u4⟩ := wts j hj2
      exact ⟨JSt_sI (by omega) (JSt_sI (by omega) (JSt_sI (by omega) (jo (252 + j) _ (by omega) (kWt j hj2) u1))), (gp _ _ (by omega)).trans ((go _ _ (by omega)).trans u2), (gp _ _ (by omega)).trans ((go _ _ (by omega)).trans u3), (gp _ _ (by omega)).trans ((go _ _ (by omega)).trans u4)⟩
    · exact (gp _ _ (by omega)).trans ((go _ _ (by omega)).trans d1)
    · exact (gp _ _ (by omega)).trans ((go _ _ (by omega)).trans d2)
    · exact (gp _ _ (by omega)).trans ((go _ _ (by omega)).trans d4)
    · exact (gp _ _ (by omega)).trans ((go _ _ (by omega)).trans d5)
/-- with a fault the walk is over -/
theorem L482f {x1 x2 x3 : Int} (h : ¬ gI σ 80 90 = 0) (h2 : x2 = 0) : RR (lkB tb482) (B482_178, [some (mR (some 80)), some (mI x1), some (mI x2), some (mI x3)], [], σ) = some (none, σ) := by
  rw [e482_178]
  simp only [e482_278, e482_293, Option.getD_some, Option.bind_some, Option.toList_some, Option.toList_none, List.cons_append, List.nil_append, and_self, and_true, true_and, false_and, and_false, ite_self, not_true_eq_false, not_false_eq_true, reduceIte, Nat.reduceEqDiff, ab_I, ab_L, ab_R, ao_I, ao_L, ao_R, gL_sL, gI_sI, gR_sR, gI_sL, gI_sR, gL_sI, gL_sR, gR_sI, gR_sL, h]
  refine RR_q (ls := [some (mR (some 80)), some (mI x1), some (mI x2), none]) ?_ (by repeat (first | exact lq_nil | refine lq_cons (Or.inr rfl) ?_ | refine lq_cons (Or.inl rfl) ?_))
  rw [e482_121, if_neg (not_not_intro h2), if_pos h]
/-- what has been met -/
def mmE (E : EV) (p : Int → B64) (S0 : ST) (G : Int → Prop) (σ τ : MS) (w : WK) (m : Int × Bool × WK) : Prop := wq τ σ ∧
  (¬ m.1 = 0 → gI τ 80 90 = m.1 ∧ gI τ 80 87 = yA m.2.2 ∧ RTd τ m.2.2) ∧
  (m.1 = 0 → gI τ 80 90 = 0 ∧ RK τ m.2.2 ∧ (yM m.2.2 ≤ 60 ∧ yNn m.2.2 ≤ 250 ∧ (∀ k, k < yNn m.2.2 → kst (kS (yH m.2.2 k))) ∧ ∀ j, j < yM m.2.2 → kst (wtS (yW m.2.2 j))) ∧
    (m.2.1 = false → RN τ m.2.2 ∧ gI τ 80 87 = yA m.2.2 ∧ (∃ D, INV dumB dumH E p id S0 G m.2.2 D) ∧ exI m.2.2) ∧
    (m.2.1 = true → ¬ yM m.2.2 = 0 → (∃ D, INV dumB dumH E p id S0 G (popK m.2.2) D) ∧ exI (popK m.2.2)))
theorem L482a (I : INV dumB dumH E p id S0 G w D) (X : exI w) (hG : ∀ x, G x → 0 ≤ x ∧ x < 200) (s : stS σ E p J) (R : RWx σ w) (first : Bool) : ∃ τ, RR (lkB tb482) (B482_121, [some (mR (some 80)), some (mI (b2 (first = true))), some (mI 0), none], [], σ) = RR (lkB tb482) (B482_160, [some (mR (some 80)), some (mI (b2 (first = true))), some (mI 0), none], [mI (b2 ((if J (yA w) = true ∧ first = false then meeK w else (0, false, w)).2.1 = true))], τ) ∧ mmE E p S0 G σ τ w (if J (yA w) = true ∧ first = false then meeK w else (0, false, w)) := by
  obtain ⟨hN, h87, h90, hK⟩ := R
  obtain ⟨kb, ⟨lN, N250, N1⟩, ⟨F0, FG, G4⟩⟩ := inv_B I X
  have wf := I.2.2.2.2.2
  obtain ⟨a0, a200⟩ := hG _ wf.1.2.2.2
  obtain ⟨a, ha⟩ : ∃ a : Nat, yA w = (a : Int) := ⟨(yA w).toNat, by omega⟩
  have ai : a < 200 := by omega
  have kK : ∀ k, k < yNn w → kst (kS (yH w k)) := fun k q => kst_of (wf.2.1 k q).1
  have kWt : ∀ j, j < yM w → kst (wtS (yW w j)) := fun j q => kst_of (wf.2.2 j q).1
  have hJ := s.2.2.2 a ai
  rw [← ha] at hJ
  have a87 : gI σ 80 87 = (a : Int) := h87.trans ha
  have b0 : 0 ≤ (a : Int) ∧ (a : Int) < 201 := by omega
  have no : ¬ (J (yA w) = true ∧ first = false) → ∃ τ, RR (lkB tb482) (B482_121, [some (mR (some 80)), some (mI (b2 (first = true))), some (mI 0), none], [], σ) = RR (lkB tb482) (B482_160, [some (mR (some 80)), some (mI (b2 (first = true))), some (mI 0), none], [mI (b2 ((if J (yA w) = true ∧ first = false then meeK w else (0, false, w)).2.1 = true))], τ) ∧ mmE E p S0 G σ τ w (if J (yA w) = true ∧ first = false then meeK w else (0, false, w)) := fun c => by
    rw [if_neg c]
    refine ⟨σ, ?_, wq_r _, fun q => absurd rfl q, fun _ => ⟨h90, hK, ⟨X.2.1.1, N250, kK, kWt⟩, fun _ => ⟨hN, h87, ⟨D, I⟩, X⟩, fun q => (by cases q)⟩⟩
    rw [b2_no (p := (0, false, w).2.1 = true) (by intro q; cases q)]
    by_cases j : J (yA w) = true
    · have ft : first = true := by
        cases hf : first with
        | true => rfl
        | false => exact absurd ⟨j, hf⟩ c
      have n136 := hJ.mp j
      rw [b2_yes ft]
      simp only [e482_121, e482_159, Option.getD_some, Option.bind_some, Option.toList_some, Option.toList_none, List.cons_append, List.nil_append, and_self, and_true, true_and, false_and, and_false, ite_self, not_true_eq_false, not_false_eq_true, reduceIte, Nat.reduceEqDiff, ab_I, ab_L, ab_R, ao_I, ao_L, ao_R, gL_sL, gI_sI, gR_sR, gI_sL, gI_sR, gL_sI, gL_sR, gR_sI, gR_sL, h90, a87, g_136, b0.1, b0.2, Int.toNat_natCast, n136, oneI]
    · have n136 : gI σ 136 a = 0 := Decidable.byContradiction fun z => j (hJ.mpr z)
      simp only [e482_121, e482_159, Option.getD_some, Option.bind_some, Option.toList_some, Option.toList_none, List.cons_append, List.nil_append, and_self, and_true, true_and, false_and, and_false, ite_self, not_true_eq_false, not_false_eq_true, reduceIte, Nat.reduceEqDiff, ab_I, ab_L, ab_R, ao_I, ao_L, ao_R, gL_sL, gI_sI, gR_sR, gI_sL, gI_sR, gL_sI, gL_sR, gR_sI, gR_sL, h90, a87, g_136, b0.1, b0.2, Int.toNat_natCast, n136]
  by_cases c : J (yA w) = true ∧ first = false
  · rw [if_pos c]
    obtain ⟨j, ft⟩ := c
    have n136 := hJ.mp j
    obtain ⟨τ, e, q1, q2, q3⟩ := T483 I X hN h87 h90 hK
    have mx := mee_x X (by omega)
    have mi := mee_i I
    have nf : ¬ first = true := by rw [ft]; decide
    refine ⟨τ, ?_, q1, fun z => ?_, fun z => ?_⟩
    · rw [b2_no nf]
      by_cases cv : (meeK w).2.1 = true
      · rw [b2_yes cv] at e ⊢
        simp only [e482_121, e482_152, Option.getD_some, Option.bind_some, Option.toList_some, Option.toList_none, List.cons_append, List.nil_append, and_self, and_true, true_and, false_and, and_false, ite_self, not_true_eq_false, not_false_eq_true, reduceIte, Nat.reduceEqDiff, ab_I, ab_L, ab_R, ao_I, ao_L, ao_R, gL_sL, gI_sI, gR_sR, gI_sL, gI_sR, gL_sI, gL_sR, gR_sI, gR_sL, h90, a87, g_136, b0.1, b0.2, Int.toNat_natCast, n136, e, oneI]
      · rw [b2_no cv] at e ⊢
        simp only [e482_121, e482_152, e482_159, Option.getD_some, Option.bind_some, Option.toList_some, Option.toList_none, List.cons_append, List.nil_append, and_self, and_true, true_and, false_and, and_false, ite_self, not_true_eq_false, not_false_eq_true, reduceIte, Nat.reduceEqDiff, ab_I, ab_L, ab_R, ao_I, ao_L, ao_R, gL_sL, gI_sI, gR_sR, gI_sL, gI_sR, gL_sI, gL_sR, gR_sI, gR_sL, h90, a87, g_136, b0.1, b0.2, Int.toNat_natCast, n136, e]
    · have e2 : yA (meeK w).2.2 = yA w := by
        unfold meeK at z ⊢
        split at z
        · split at z
          · rename_i q
            rw [if_pos q]
          · exact absurd rfl z
        · split at z
          · rename_i q
            rw [if_pos q]
          · exact absurd rfl z
      rw [e2]
      exact q2 z
    · obtain ⟨u1, u2, u3⟩ := q3 z
      refine ⟨u1, u2, ?_, fun q => ?_, fun q m0 => ?_⟩
      · -- bounds
        by_cases cv : (meeK w).2.1 = true
        · have e2 : ∃ n, (meeK w).2.2 = (w.1, (yNn w, endK (yH w) (yK w) n), w.2.2) := by
            unfold meeK at z cv ⊢
            generalize metK w = o at z cv ⊢
            rcases o with _ | k
            · dsimp only at z cv ⊢
              by_cases q : yNn w = 250
              · rw [if_pos q] at z
                exact absurd z (show ¬ (12 : Int) = 0 by decide)
              · rw [if_neg q] at cv
                have cv : false = true := cv
                cases cv
            · dsimp only at z cv ⊢
              by_cases q : 0 < kW (yH w k)
              · rw [if_pos q] at z
                exact absurd z (show ¬ (11 : Int) = 0 by decide)
              · rw [if_neg q]
                exact ⟨_, rfl⟩
          obtain ⟨n, e2⟩ := e2
          rw [e2]
          exact ⟨X.2.1.1, N250, fun k hk => by
            show kst (kS (endK (yH w) (yK w) n k))
            rw [(end_same _ _ _ k).1]
            exact kK k hk, kWt⟩
        · have cf : (meeK w).2.1 = false := by
            cases hv : (meeK w).2.1 with
            | true => exact absurd hv cv
            | false => rfl
          obtain ⟨D', I'⟩ := (mi z).1 cf
          have X' := ((mx z).1 cf).1
          have wf' := I'.2.2.2.2.2
          exact ⟨X'.2.1.1, (inv_B I' X').2.1.2.1, fun k q => kst_of (wf'.2.1 k q).1, fun j q => kst_of (wf'.2.2 j q).1⟩
      · obtain ⟨u4, u5⟩ := u3 q
        obtain ⟨x1, x2, x3, x4, x5⟩ := (mx z).1 q
        exact ⟨u4, u5.trans x4.symm, (mi z).1 q, x1⟩
      · exact ⟨((mi z).2 q).2 m0, (mx z).2 q m0⟩
  · exact no c
set_option maxHeartbeats 1000000 in
theorem L482 (hE : okE E) (hp : okP G p) (hG : ∀ x, G x → 0 ≤ x ∧ x < 200) : ∀ (n : Nat) (first : Bool) (w w' : WK) (D : Nat → Int) (σ : MS) (f : Int), INV dumB dumH E p id S0 G w D → exI w → stS σ E p J → RWx σ w → wlkK E p J n first w = some (f, w') → okc (RR (lkB tb482) (B482_121, [some (mR (some 80)), some (mI (b2 (first = true))), some (mI 0), none], [], σ)) none (fun τ => fnE σ τ f w') := by
  intro n
  induction n with
  | zero => intro first w w' D σ f _ _ _ _ h; cases h
  | succ n ih =>
    intro first w w' D σ f I X s R h
    obtain ⟨τ, e, q0, q1, q2⟩ := L482a I X hG s R first
    have ei : itrK E p J first w = (let m := if J (yA w) = true ∧ first = false then meeK w else (0, false, w)
        if ¬ m.1 = 0 then (m.1, false, m.2.2)
        else
          let s := if m.2.1 = true then (0, true, m.2.2) else insK E p m.2.2
          if ¬ s.1 = 0 then (s.1, false, s.2.2)
          else if s.2.1 = true then (if yM s.2.2 = 0 then (0, true, s.2.2) else (0, false, popK s.2.2))
          else (0, false, s.2.2)) := rfl
    have gi := itr_i (J := J) (first := first) dum_B dum_H hE (fun _ => ⟨rfl, rfl, rfl⟩) hp I
    rw [e]
    clear e
    generalize (if J (yA w) = true ∧ first = false then meeK w else (0, false, w)) = m at *
    simp only at ei
    unfold wlkK at h
    -- the walk goes on with a state that waits
    have pop : ∀ (ρ : MS) (w1 : WK) (x3 : Int), itrK E p J first w = (if yM w1 = 0 then (0, true, w1) else (0, false, popK w1)) → gI ρ 80 90 = 0 → RK ρ w1 → (yM w1 ≤ 60 ∧ yNn w1 ≤ 250 ∧ (∀ k, k < yNn w1 → kst (kS (yH w1 k))) ∧ ∀ j, j < yM w1 → kst (wtS (yW w1 j))) → (¬ yM w1 = 0 → (∃ D, INV dumB dumH E p id S0 G (popK w1) D) ∧ exI (popK w1)) → wq ρ σ → okc (RR (lkB tb482) (B482_196, [some (mR (some 80)), some (mI 0), some (mI 0), some (mI x3)], [], ρ)) none (fun τ => fnE σ τ f w') := fun ρ w1 x3 e1 e2 e3 e4 e5 e6 => by
      obtain ⟨b1, b2', b3, b4⟩ := e4
      obtain ⟨c1, c2, c3⟩ := L482c (x3 := x3) e2 e3 b2' b1 b3 b4
      by_cases m0 : yM w1 = 0
      · rw [if_pos m0] at e1
        rw [e1] at h
        have h : some ((0 : Int), w1) = some (f, w') := h
        cases h
        rw [c1 m0]
        exact okc_s ⟨e6, e2, e3.2.2.2.2, fun q => absurd rfl q, fun _ => e3⟩
      · rw [if_neg m0] at e1
        rw [e1] at h
        have h : wlkK E p J n false (popK w1) = some (f, w') := h
        obtain ⟨⟨D', I'⟩, X'⟩ := e5 m0
        obtain ⟨d1, d2⟩ := c3 m0
        have wσ := wq_t d1 e6
        refine c2 m0 _ (okc_m (ih false (popK w1) w' D' (poS ρ w1) f I' X' (wq_st wσ s) d2 h) fun τ z => fnE_t z wσ)
    by_cases m1 : m.1 = 0
    · obtain ⟨u1, u2, u3, u4, u5⟩ := q2 m1
      rw [if_neg (not_not_intro m1)] at ei
      by_cases m2 : m.2.1 = true
      · -- it is covered
        rw [if_pos m2, if_neg (not_not_intro rfl), if_pos rfl] at ei
        rw [b2_yes m2, e482_160]
        simp only [Option.getD_some, Option.bind_some, Option.toList_some, Option.toList_none, List.cons_append, List.nil_append, and_self, and_true, true_and, false_and, and_false, ite_self, not_true_eq_false, not_false_eq_true, reduceIte, Nat.reduceEqDiff, ab_I, ab_L, ab_R, ao_I, ao_L, ao_R, gL_sL, gI_sI, gR_sR, gI_sL, gI_sR, gL_sI, gL_sR, gR_sI, gR_sL, u1, oneI]
        rw [e482_178]
        simp only [Option.getD_some, Option.bind_some, Option.toList_some, Option.toList_none, List.cons_append, List.nil_append, and_self, and_true, true_and, false_and, and_false, ite_self, not_true_eq_false, not_false_eq_true, reduceIte, Nat.reduceEqDiff, ab_I, ab_L, ab_R, ao_I, ao_L, ao_R, gL_sL, gI_sI, gR_sR, gI_sL, gI_sR, gL_sI, gL_sR, gR_sI, gR_sL, u1, oneI]
        exact pop τ m.2.2 1 ei u1 u2 u3 (u5 m2) q0
      · have m2f : m.2.1 = false := by
          cases hv : m.2.1 with
          | true => exact absurd hv m2
          | false => rfl
        rw [if_neg m2] at ei
        obtain ⟨v1, v2, ⟨D1, I1⟩, X1⟩ := u4 m2f
        have sτ := wq_st q0 s
        obtain ⟨ρ, e5, z0, z1, z2⟩ := T495 hE I1 X1 hp hG sτ.2.1 sτ.2.2.1 sτ.1 v1 v2 u1 u2
        have wf1 := I1.2.2.2.2.2
        have ok1 := wf1.1.1
        have go1 := hp _ wf1.1.2.2.2
        have G1 := (inv_B I1 X1).2.2
        have ix := ins_x X1 ok1 (by omega) go1.1 hE
        have ii := ins_i dum_B dum_H hE (fun _ => ⟨rfl, rfl, rfl⟩) hp I1
        have wρ := wq_t z0 q0
        have s178 : RR (lkB tb482) (B482_160, [some (mR (some 80)), some (mI (b2 (first = true))), some (mI 0), none], [mI (b2 (m.2.1 = true))], τ) = RR (lkB tb482) (B482_178, [some (mR (some 80)), some (mI 0), some (mI 0), some (mI 0)], [], ρ) := by
          rw [b2_no m2, e482_160]
          simp only [Option.getD_some, Option.bind_some, Option.toList_some, Option.toList_none, List.cons_append, List.nil_append, and_self, and_true, true_and, false_and, and_false, ite_self, not_true_eq_false, not_false_eq_true, reduceIte, Nat.reduceEqDiff, ab_I, ab_L, ab_R, ao_I, ao_L, ao_R, gL_sL, gI_sI, gR_sR, gI_sL, gI_sR, gL_sI, gL_sR, gR_sI, gR_sL, u1, e5]
        rw [s178]
        by_cases i1 : (insK E p m.2.2).1 = 0
        · obtain ⟨y1, y2, y3, y4⟩ := z2 i1
          rw [if_neg (not_not_intro i1)] at ei
          by_cases i2 : (insK E p m.2.2).2.1 = true
          · rw [if_pos i2] at ei
            have y5 := y3 i2
            have n5 : ¬ gI ρ 80 89 = 0 := by rw [y5]; decide
            rw [e482_178]
            simp only [Option.getD_some, Option.bind_some, Option.toList_some, Option.toList_none, List.cons_append, List.nil_append, and_self, and_true, true_and, false_and, and_false, ite_self, not_true_eq_false, not_false_eq_true, reduceIte, Nat.reduceEqDiff, ab_I, ab_L, ab_R, ao_I, ao_L, ao_R, gL_sL, gI_sI, gR_sR, gI_sL, gI_sR, gL_sI, gL_sR, gR_sI, gR_sL, y1, n5]
            refine pop ρ (insK E p m.2.2).2.2 0 ei y1 y2 ?_ (fun m0 => ⟨((ii i1).2 i2).2 m0, (ix i1).2 i2 m0⟩) wρ
            have e2 : ∃ n w1', (insK E p m.2.2).2.2 = (w1', (yNn m.2.2, endK (yH m.2.2) (yK m.2.2) n), m.2.2.2.2.1, (insK E p m.2.2).2.2.2.2.2) := by
              have c4 : ¬ yG m.2.2 = 4000 := fun c => by
                rw [ins_g c] at i1
                exact absurd i1 (show ¬ (12 : Int) = 0 by decide)
              by_cases zf : (stpJ E (yS m.2.2) (yA m.2.2) (p (yA m.2.2)) (p (yA m.2.2 + 1)) (yT m.2.2)).1 = 0
              · generalize er : stpJ E (yS m.2.2) (yA m.2.2) (p (yA m.2.2)) (p (yA m.2.2 + 1)) (yT m.2.2) = r at zf
                obtain ⟨rf, ra, rb, rt⟩ := r
                have zf : rf = 0 := zf
                subst zf
                rcases ra with _ | ⟨n1, S1⟩
                · rw [ins_e c4 er]
                  exact ⟨_, _, rfl⟩
                · rcases rb with _ | ⟨g, S2⟩
                  · rw [ins_1 c4 er] at i2
                    cases i2
                  · by_cases m60 : yM m.2.2 = 60
                    · rw [ins_6 c4 m60 er] at i2
                      cases i2
                    · rw [ins_2 c4 m60 er] at i2
                      cases i2
              · rw [ins_f c4 zf] at i2
                cases i2
            obtain ⟨n2, w2, e2⟩ := e2
            rw [e2]
            obtain ⟨b1, b2', b3, b4⟩ := u3
            exact ⟨b1, b2', fun k hk => by
              show kst (kS (endK (yH m.2.2) (yK m.2.2) n2 k))
              rw [(end_same _ _ _ k).1]
              exact b3 k hk, b4⟩
          · rw [if_neg i2] at ei
            have i2f : (insK E p m.2.2).2.1 = false := by
              cases hv : (insK E p m.2.2).2.1 with
              | true => exact absurd hv i2
              | false => rfl
            obtain ⟨y5, y6, y7⟩ := y4 i2f
            rw [ei] at h
            have h : wlkK E p J n false (insK E p m.2.2).2.2 = some (f, w') := h
            obtain ⟨D', I'⟩ := (ii i1).1 i2f
            have X' := (ix i1).1 i2f
            have wn : wq (sI ρ 80 87 (gI ρ 80 88)) σ := wq_t (wq_sI (by omega)) wρ
            have Rn : RWx (sI ρ 80 87 (gI ρ 80 88)) (insK E p m.2.2).2.2 := by
              obtain ⟨⟨c1, c2, c3, c4⟩, kr, rows, wts, ⟨⟨d1, d2, d4, d5⟩, kn⟩⟩ := y2
              obtain ⟨n1, n2, n3⟩ := y6
              have g : ∀ k s, ¬ (k = 80 ∧ s = 87) → gI (sI ρ 80 87 (gI ρ 80 88)) k s = gI ρ k s := fun k s q => by rw [gI_sI, if_neg q]
              refine ⟨⟨JSt_sI (by omega) n1, (g _ _ (by omega)).trans n2, (g _ _ (by omega)).trans n3⟩, ?_, (g _ _ (by omega)).trans y1, ⟨(g _ _ (by omega)).trans c1, (g _ _ (by omega)).trans c2, (g _ _ (by omega)).trans c3, (g _ _ (by omega)).trans c4⟩, fun k hk => ?_, fun k hk => JSt_sI (by omega) (rows k hk), fun j hj => ?_, ⟨⟨(g _ _ (by omega)).trans d1, (g _ _ (by omega)).trans d2, (g _ _ (by omega)).trans d4, (g _ _ (by omega)).trans d5⟩, KN_fr (fun k s q => g _ _ (by omega)) (fun s => rfl) kn⟩⟩
              · rw [gI_sI, if_pos ⟨rfl, rfl⟩]
                exact y7
              · rw [g _ _ (by omega), g _ _ (by omega), g _ _ (by omega), g _ _ (by omega), g _ _ (by omega)]
                exact kr k hk
              · obtain ⟨t1, t2, t3, t4⟩ := wts j hj
                exact ⟨JSt_sI (by omega) t1, (g _ _ (by omega)).trans t2, (g _ _ (by omega)).trans t3, (g _ _ (by omega)).trans t4⟩
            have t := ih false (insK E p m.2.2).2.2 w' D' (sI ρ 80 87 (gI ρ 80 88)) f I' X' (wq_st wn s) Rn h
            rw [b2_no (p := false = true) (by decide)] at t
            rw [e482_178]
            simp only [e482_278, e482_293, Option.getD_some, Option.bind_some, Option.toList_some, Option.toList_none, List.cons_append, List.nil_append, and_self, and_true, true_and, false_and, and_false, ite_self, not_true_eq_false, not_false_eq_true, reduceIte, Nat.reduceEqDiff, ab_I, ab_L, ab_R, ao_I, ao_L, ao_R, gL_sL, gI_sI, gR_sR, gI_sL, gI_sR, gL_sI, gL_sR, gR_sI, gR_sL, y1, y5]
            exact okc_q (by repeat (first | exact lq_nil | refine lq_cons (Or.inr rfl) ?_ | refine lq_cons (Or.inl rfl) ?_)) (okc_m t fun τ z => fnE_t z wn)
        · rw [if_pos i1] at ei
          rw [ei, if_pos i1] at h
          cases h
          obtain ⟨y1, y2, y3⟩ := z1 i1
          rw [L482f (by rw [y1]; exact i1) rfl]
          have ea : yA (insK E p m.2.2).2.2 = yA m.2.2 := by
            by_cases c4 : yG m.2.2 = 4000
            · rw [ins_g c4]
            · by_cases zf : (stpJ E (yS m.2.2) (yA m.2.2) (p (yA m.2.2)) (p (yA m.2.2 + 1)) (yT m.2.2)).1 = 0
              · generalize er : stpJ E (yS m.2.2) (yA m.2.2) (p (yA m.2.2)) (p (yA m.2.2 + 1)) (yT m.2.2) = r at zf
                obtain ⟨rf, ra, rb, rt⟩ := r
                have zf : rf = 0 := zf
                subst zf
                rcases ra with _ | ⟨n1, S1⟩
                · rw [ins_e c4 er] at i1
                  exact absurd rfl i1
                · rcases rb with _ | ⟨g, S2⟩
                  · rw [ins_1 c4 er] at i1
                    exact absurd rfl i1
                  · by_cases m60 : yM m.2.2 = 60
                    · rw [ins_6 c4 m60 er]
                    · rw [ins_2 c4 m60 er] at i1
                      exact absurd rfl i1
              · rw [ins_f c4 zf]
          exact okc_s ⟨wρ, y1, y3, fun _ => y2.trans ea.symm, fun z => absurd z i1⟩
    · -- a fault at once
      rw [if_pos m1] at ei
      rw [ei, if_pos m1] at h
      cases h
      obtain ⟨y1, y2, y3⟩ := q1 m1
      have n90 : ¬ gI τ 80 90 = 0 := by rw [y1]; exact m1
      rw [e482_160, if_pos n90, L482f n90 rfl]
      exact okc_s ⟨q0, y1, y3, fun _ => y2, fun z => absurd z m1⟩
end WLK
