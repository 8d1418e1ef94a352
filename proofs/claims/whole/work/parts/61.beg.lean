/-! ===== the reference's judge: how THE WALK begins ===== -/
def begR (ρ : MS) : MS := sI (sI (sI (sI (sI (sI (sI (sI (sI (sI (sI (sI (sI (sI ρ 80 72 1) 127 0 0) 128 0 (-1)) 129 0 0) 130 0 1) 131 0 0) 80 78 0) 80 82 0) 80 83 0) 80 84 0) 80 85 0) 80 87 0) 138 2 1) 138 5 1
section BEG
variable {σ τ ρ : MS} {E : EV} {p : Int → B64} {J : Int → Bool} {w' : WK} {G : Int → Prop} {f : Int} {k s : Nat}
theorem br_I (h1 : ¬ (k = 80 ∧ (s = 72 ∨ s = 78 ∨ s = 82 ∨ s = 83 ∨ s = 84 ∨ s = 85 ∨ s = 87))) (h2 : ¬ ((127 ≤ k ∧ k ≤ 131) ∧ s = 0)) (h3 : ¬ (k = 138 ∧ (s = 2 ∨ s = 5))) : gI (begR ρ) k s = gI ρ k s := by
  unfold begR
  rw [gI_sI, if_neg (by omega), gI_sI, if_neg (by omega), gI_sI, if_neg (by omega), gI_sI, if_neg (by omega), gI_sI, if_neg (by omega), gI_sI, if_neg (by omega), gI_sI, if_neg (by omega), gI_sI, if_neg (by omega), gI_sI, if_neg (by omega), gI_sI, if_neg (by omega), gI_sI, if_neg (by omega), gI_sI, if_neg (by omega), gI_sI, if_neg (by omega), gI_sI, if_neg (by omega)]
theorem br_v : (gI (begR ρ) 127 0 = 0 ∧ gI (begR ρ) 128 0 = -1 ∧ gI (begR ρ) 129 0 = 0 ∧ gI (begR ρ) 130 0 = 1 ∧ gI (begR ρ) 131 0 = 0) ∧ (gI (begR ρ) 80 72 = 1 ∧ gI (begR ρ) 80 78 = 0 ∧ gI (begR ρ) 80 82 = 0 ∧ gI (begR ρ) 80 83 = 0 ∧ gI (begR ρ) 80 84 = 0 ∧ gI (begR ρ) 80 85 = 0 ∧ gI (begR ρ) 80 87 = 0) ∧ gI (begR ρ) 138 2 = 1 ∧ gI (begR ρ) 138 5 = 1 := by
  unfold begR
  simp only [gI_sI, Nat.reduceEqDiff, and_self, and_true, true_and, false_and, and_false, if_true, if_false]
theorem br_J {i : Nat} {S : ST} (j : JSt σ i S) : JSt (begR σ) i S := JSt_fr (fun k s h1 h2 => br_I (by omega) (by omega) (by omega)) (fun k s h1 h2 => rfl) j
theorem br_wq : wq (begR ρ) ρ := ⟨fun k s p => br_I (by omega) (by omega) (by omega), fun k s p => rfl, rfl⟩
theorem beg_x : exI (begK S0J) := ⟨⟨S0_can, fun k _ => ⟨S0_can, by show (0 : Int) ≤ 4000; decide⟩, fun j hj => absurd hj (Nat.not_lt_zero _)⟩, ⟨by show 0 ≤ 60; decide, by show (0 : Int) ≤ 0; decide, by show (0 : Int) ≤ 0; decide⟩, by show ((1 : Nat) : Int) ≤ 1; decide, fun j hj => absurd hj (Nat.not_lt_zero _)⟩
theorem L482x : J0 (wrV (clS (sI (sI σ 123 0 1) 125 0 0) (26 * 0) 26) 1 (mkV 2 0 0)) S0J := by
  refine ⟨?_, fun k hk => ?_, fun f f1 f2 => ?_, ?_, fun j hj => absurd hj (Nat.not_lt_zero _)⟩
  · rw [gW (by omega), cl_I (by omega), gI_sI, if_neg (by omega), gI_sI, if_pos ⟨rfl, rfl⟩]
    rfl
  · have hk : k < 26 := hk
    rw [show 104 * 0 + k = k by omega, aV_wrV]
    show _ = (if k = 1 then mkV 2 0 0 else unsV)
    by_cases e : k = 1
    · rw [if_pos e, if_pos e]
    · rw [if_neg e, if_neg e, cl_V, if_pos ⟨by omega, by omega⟩]
  · have f2 : f < 1 := f2
    exfalso
    omega
  · rw [gW (by omega), cl_I (by omega), gI_sI, if_pos ⟨rfl, rfl⟩]
    rfl
theorem L482y : ∃ σc, MM 482 [mR (some 80)] σ = RR (lkB tb482) (B482_27, [some (mR (some 80)), none, none, none], [], σc) ∧ J0 σc S0J ∧ (∀ k s, ¬ (118 ≤ k ∧ k ≤ 126) → gI σc k s = gI σ k s) ∧ (∀ k s, ¬ (112 ≤ k ∧ k ≤ 117) → gL σc k s = gL σ k s) ∧ σc.2.2 = σ.2.2 := by
  have t9 : MM 469 [mR (some 80), mI 0] (sI (sI σ 123 0 1) 125 0 0) = some (none, clS (sI (sI σ 123 0 1) 125 0 0) (26 * 0) 26) := T469 (f := 0) (by decide)
  have rc : (clS (sI (sI σ 123 0 1) 125 0 0) (26 * 0) 26).2.2 = (sI (sI σ 123 0 1) 125 0 0).2.2 := cl_r 26
  have jc := L482x (σ := σ)
  have gc : ∀ k s, ¬ (118 ≤ k ∧ k ≤ 126) → gI (wrV (clS (sI (sI σ 123 0 1) 125 0 0) (26 * 0) 26) 1 (mkV 2 0 0)) k s = gI σ k s := fun k s q => by
    rw [gW (by omega), cl_I (by omega), gI_sI, if_neg (by omega), gI_sI, if_neg (by omega)]
  have lc : ∀ k s, ¬ (112 ≤ k ∧ k ≤ 117) → gL (wrV (clS (sI (sI σ 123 0 1) 125 0 0) (26 * 0) 26) 1 (mkV 2 0 0)) k s = gL σ k s := fun k s q => by
    rw [gL_wrV_o q, cl_L (by omega), gL_sI, gL_sI]
  generalize clS (sI (sI σ 123 0 1) 125 0 0) (26 * 0) 26 = σb at *
  have i1 : inB 1 := by decide
  have t1 : MM 431 [mR (some 80), mI 1, mI 2, mI 0, mI 0] σb = some (none, wrV σb (1 : Int).toNat (mkV 2 0 0)) := T431 i1 (by decide)
  refine ⟨wrV σb 1 (mkV 2 0 0), ?_, jc, gc, lc, rc⟩
  simp only [M482, e482_0, e482_19, Option.getD_some, Option.bind_some, Option.toList_some, Option.toList_none, List.cons_append, List.nil_append, and_self, and_true, true_and, false_and, and_false, ite_self, not_true_eq_false, not_false_eq_true, reduceIte, Nat.reduceEqDiff, ab_I, ab_L, ab_R, ao_I, ao_L, ao_R, gL_sL, gI_sI, gR_sR, gI_sL, gI_sR, gL_sI, gL_sR, gR_sI, gR_sL, g_123, g_125, Int.reduceLT, Int.reduceLE, show (0 : Int).toNat = 0 from rfl, t9, t1, show (1 : Int).toNat = 1 from rfl]
theorem L482z {E : EV} : ∃ ρ, MM 482 [mR (some 80)] σ = RR (lkB tb482) (B482_121, [some (mR (some 80)), some (mI 1), some (mI 0), none], [], begR ρ) ∧ J0 ρ S0J ∧ JSt ρ 1 S0J ∧ (∀ k s, ¬ (118 ≤ k ∧ k ≤ 126) → gI ρ k s = gI σ k s) ∧ (∀ k s, ¬ (112 ≤ k ∧ k ≤ 117) → gL ρ k s = gL σ k s) ∧ ρ.2.2 = σ.2.2 := by
  obtain ⟨σc, e, jc, gc, lc, rc⟩ := L482y (σ := σ)
  have k0 : kst S0J := kst_of (S0_ok (E := E))
  have t8 : MM 468 [mR (some 80), mI 0, mI 1] σc = some (none, cpS σc 0 1) := T468s (x := 0) (y := 1) (by decide) (by decide) (by decide) k0 jc
  have f4 := JSt_4 k0.1.2 k0.2.1 jc
  have jn : JSt (cpS σc 0 1) 1 S0J := cp_J (by decide) (by decide) (by decide) k0.1 k0.2.1 jc
  have jo : J0 (cpS σc 0 1) S0J := cp_o f4 (by decide) k0.1.2 k0.2.1 jc
  have go : ∀ k s, ¬ (118 ≤ k ∧ k ≤ 126) → gI (cpS σc 0 1) k s = gI σ k s := fun k s q => (cp_I f4 (by omega)).trans (gc k s q)
  have lo : ∀ k s, ¬ (112 ≤ k ∧ k ≤ 117) → gL (cpS σc 0 1) k s = gL σ k s := fun k s q => (cp_L f4.1 (by omega)).trans (lc k s q)
  have ro : (cpS σc 0 1).2.2 = σ.2.2 := (show (cpS σc 0 1).2.2 = σc.2.2 from rfl).trans rc
  generalize cpS σc 0 1 = ρ at *
  refine ⟨ρ, ?_, jo, jn, go, lo, ro⟩
  rw [e]
  unfold begR
  simp only [e482_27, e482_33, e482_52, e482_73, e482_88, e482_103, Option.getD_some, Option.bind_some, Option.toList_some, Option.toList_none, List.cons_append, List.nil_append, and_self, and_true, true_and, false_and, and_false, ite_self, not_true_eq_false, not_false_eq_true, reduceIte, Nat.reduceEqDiff, ab_I, ab_L, ab_R, ao_I, ao_L, ao_R, gL_sL, gI_sI, gR_sR, gI_sL, gI_sR, gL_sI, gL_sR, gR_sI, gR_sL, g_127, g_128, g_129, g_130, g_131, g_138, Int.reduceLT, Int.reduceLE, show (0 : Int).toNat = 0 from rfl, show (2 : Int).toNat = 2 from rfl, show (5 : Int).toNat = 5 from rfl, t8]
theorem T482 (hE : okE E) (hp : okP G p) (hG : ∀ x, G x → 0 ≤ x ∧ x < 200) (g0 : G 0) (s : stS σ E p J) (h90 : gI σ 80 90 = 0) (h1 : gI σ 138 1 = 0 ∧ gI σ 138 4 = 0) (h139 : ∀ i, i < 200 → gI σ 139 i = 0) {n : Nat} (h : wlkK E p J n true (begK S0J) = some (f, w')) : okc (MM 482 [mR (some 80)] σ) none (fun τ => fnE σ τ f w') := by
  obtain ⟨ρ, s121, jo, jn, go, lo, ro⟩ := L482z (σ := σ) (E := E)
  rw [s121]
  have wb : wq (begR ρ) σ := wq_t br_wq ⟨fun k s q => go k s (by omega), fun k s q => lo k s (by omega), ro⟩
  obtain ⟨⟨a1, a2, a3, a4, a5⟩, ⟨b1, b2', b3, b4, b5, b6, b7⟩, c1, c2⟩ := br_v (ρ := ρ)
  have R : RWx (begR ρ) (begK S0J) := by
    refine ⟨⟨br_J jo, b3, b4⟩, b7, ?_, ⟨b5, b6, b1, b2'⟩, fun k hk => ?_, fun k hk => ?_, fun j hj => absurd hj (Nat.not_lt_zero _), ⟨?_, c1, ?_, c2⟩, fun i hi => ⟨fun S q => (by cases q), fun _ => ?_⟩⟩
    · exact (br_I (by omega) (by omega) (by omega)).trans ((go _ _ (by omega)).trans h90)
    · have hk : k < 1 := hk
      have e : k = 0 := by omega
      subst e
      exact ⟨a1, a2, a3, a4, a5⟩
    · have hk : k < 1 := hk
      have e : k = 0 := by omega
      subst e
      exact br_J jn
    · exact (br_I (by omega) (by omega) (by omega)).trans ((go _ _ (by omega)).trans h1.1)
    · exact (br_I (by omega) (by omega) (by omega)).trans ((go _ _ (by omega)).trans h1.2)
    · exact (br_I (by omega) (by omega) (by omega)).trans ((go _ _ (by omega)).trans (h139 i hi))
  have I : INV dumB dumH E p id S0J G (begK S0J) (fun _ => 0) := beg_i ⟨S0_ok, S0_m, fun f f1 f2 => by
    have f2 : f < 1 := f2
    exfalso
    omega, g0⟩
  have t := L482 hE hp hG n true (begK S0J) w' (fun _ => 0) (begR ρ) f I beg_x (wq_st wb s) R h
  exact okc_m t fun τ z => fnE_t z wb
end BEG
