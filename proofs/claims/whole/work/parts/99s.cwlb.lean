/-! ===== the class's walk, from its beginning ===== -/
section CWLB
variable {σ τ : MS} {k hc sc cc : Nat} {E : EV} {p : Int → B64} {J : Int → Bool} {G : Int → Prop} {C f : Int} {w' : WK}
theorem T209d (h : isSt σ k) : okc (MM 209 [mR (some k)] σ) none (fun τ => CSt τ k S0J ∧ (gI τ k 5 = 0 ∧ gI τ k 7 = 0 ∧ gR τ k 6 = none) ∧ (∀ k' s, ¬ (k' = k ∧ (s = 3 ∨ s = 4 ∨ s = 5 ∨ s = 7)) → gI τ k' s = gI σ k' s) ∧ (∀ k' s, ¬ (k' = k + 1 + 0 ∧ s < 297) → gL τ k' s = gL σ k' s) ∧ (∀ k' s, ¬ (k' = k ∧ s = 6) → gR τ k' s = gR σ k' s) ∧ τ.2.2.2 = σ.2.2.2) := by
  have h' : isSt (sI (sR (sI (sI (sI σ k 3 1) k 4 0) k 5 0) k 6 none) k 7 0) k := h
  obtain ⟨τ, e, q1, q2, q3, q4, q5, q6⟩ := T210 h' (show 0 < 4 by decide)
  have e : MM 210 [mR (some k), mI 0] (sI (sR (sI (sI (sI σ k 3 1) k 4 0) k 5 0) k 6 none) k 7 0) = some (none, τ) := e
  have hτ : isSt τ k := st_r q3 h'
  have g3 : gI τ k 3 = 1 := by rw [q1, gI_sI, if_neg (by omega), gI_sR, gI_sI, if_neg (by omega), gI_sI, if_neg (by omega), gI_sI, if_pos ⟨rfl, rfl⟩]
  have g4 : gI τ k 4 = 0 := by rw [q1, gI_sI, if_neg (by omega), gI_sR, gI_sI, if_neg (by omega), gI_sI, if_pos ⟨rfl, rfl⟩]
  have g5 : gI τ k 5 = 0 := by rw [q1, gI_sI, if_neg (by omega), gI_sR, gI_sI, if_pos ⟨rfl, rfl⟩]
  have g7 : gI τ k 7 = 0 := by rw [q1, gI_sI, if_pos ⟨rfl, rfl⟩]
  have gr : ∀ k' s, gR τ k' s = if k' = k ∧ s = 6 then none else gR σ k' s := fun k' s => by
    show τ.2.2.1 k' s = _
    rw [q3]
    rfl
  have t12 : MM 212 [mR (some k), mI 1] τ = some (some (mI ((11 : Nat) : Int)), τ) := T212 (S := S0J) (r := 1) hτ g3 ⟨by decide, by decide⟩ (by decide)
  simp only [M209, e209_0, e209_15, e209_30, e209_39, Option.getD_some, Option.bind_some, Option.toList_some, Option.toList_none, List.cons_append, List.nil_append, and_self, and_true, true_and, false_and, and_false, ite_self, not_true_eq_false, not_false_eq_true, reduceIte, Nat.reduceEqDiff, ab_I, ab_L, ab_R, ao_I, ao_L, ao_R, gL_sL, gI_sI, gR_sR, gI_sL, gI_sR, gL_sI, gL_sR, gR_sI, gR_sL, aoS h, ak_n, e, aoS hτ, t12, abS hτ, Int.natCast_nonneg, show ((11 : Nat) : Int) < 1188 from by decide, Int.toNat_natCast]
  refine okc_s ⟨⟨⟨g3, g4⟩, fun f r hf hr i hi => ?_, fun f hf i hi => ?_, fun f q hf hq i hi => ?_, fun f f1 f2 => ?_, fun j hj => absurd hj (Nat.not_lt_zero _)⟩, ⟨g5, g7, ?_⟩, fun k' s q => ?_, fun k' s q => ?_, fun k' s q => ?_, ?_⟩
  · have hf : f < 1 := hf
    have f0 : f = 0 := by omega
    subst f0
    show _ = enV (if 26 * 0 + r = 1 then mkV 2 0 0 else unsV) i
    rw [gL_sL]
    by_cases r1 : r = 1
    · subst r1
      rw [if_pos rfl]
      by_cases i0 : i = 0
      · subst i0
        rw [if_pos ⟨rfl, rfl⟩]
        rfl
      · have z := q4 1 (by decide) i hi
        rw [en_0] at z
        rw [if_neg (by omega), z]
        unfold enV
        rw [if_neg i0]
        repeat' split
        all_goals rfl
    · rw [if_neg (by omega), if_neg (by omega)]
      exact q4 r hr i hi
  · have hf : f < 1 := hf
    have f0 : f = 0 := by omega
    subst f0
    rw [gL_sL, if_neg (by omega)]
    exact q5 i hi
  · have hf : f < 1 := hf
    have f0 : f = 0 := by omega
    subst f0
    show _ = enV (if 26 * 0 + 10 + q = 1 then mkV 2 0 0 else unsV) i
    rw [gL_sL, if_neg (by omega), if_neg (by omega)]
    exact q6 q hq i hi
  · have f2 : f < 1 := f2
    exfalso
    omega
  · show gR τ k 6 = none
    rw [gr, if_pos ⟨rfl, rfl⟩]
  · rw [gI_sL, q1, gI_sI, if_neg (by omega), gI_sR, gI_sI, if_neg (by omega), gI_sI, if_neg (by omega), gI_sI, if_neg (by omega)]
  · rw [gL_sL, if_neg (by omega), q2 _ _ (by omega)]
    rfl
  · show gR τ k' s = gR σ k' s
    rw [gr, if_neg q]
  · show τ.2.2.2 = _
    rw [q3]
    rfl
theorem S0_x : xS S0J := by
  have v : ∀ k : Nat, sV S0J k = if k = 1 then mkV 2 0 0 else unsV := fun k => rfl
  refine ⟨fun k _ => ?_, fun k _ _ z => ?_⟩
  · rw [v]
    by_cases e : k = 1
    · rw [if_pos e]
      exact ⟨fun z => absurd z (by decide), fun _ => rfl, fun _ => rfl, fun z => absurd z (by decide)⟩
    · rw [if_neg e]
      exact ⟨fun z => absurd z (by decide), fun _ => rfl, fun _ => rfl, fun z => absurd z (by decide)⟩
  · rw [v] at z ⊢
    by_cases e : k = 1
    · rw [if_pos e] at z
      exact absurd z (by decide)
    · rw [if_neg e]
      rfl
theorem beg_xi : xI (begK S0J) := ⟨S0_x, fun _ _ => S0_x, fun j hj => absurd hj (Nat.not_lt_zero _)⟩
theorem up_c {x : KT} : upK (fun _ => x) 0 x = fun _ => x := by
  funext j
  unfold upK
  split <;> rfl
theorem T34 (hE : okE E) (hp : okP G p) (hG : ∀ x, G x → 0 ≤ x ∧ x < 200) (g0 : G 0) (po : POOL σ) (pn : PCN σ C) (h15 : gR σ 39 15 = some sc) (h14 : gR σ 39 14 = some hc) (sE : SEc σ E p J cc) (f1 : gI σ 51 1 = 0) (f2 : gI σ 51 2 = 0) (f4 : gI σ 51 4 = 0) (f5 : gI σ 51 5 = 0) (f8 : gI σ 40 8 = 0) (h11 : gI σ 39 11 = 0) (k52 : ∀ i : Nat, i < 200 → gI σ 52 i = 0) (k60 : ∀ i : Nat, i < 200 → gR σ 60 i = none ∧ gR σ 61 i = none) {n : Nat} (h : wlkK E p J n true (begK S0J) = some (f, w')) : okc (MM 34 [mR (some 39), mR (some cc)] σ) (some (mI f)) (fun τ => fnC σ τ C f w') := by
  have sh := po.1 0 hc (by decide) (sR_z.trans h14)
  have ch := sh.2
  unfold isCl at ch
  obtain ⟨ρ, t9, cS, ⟨r5, r7, r6⟩, gi, gl, gr, kk⟩ := T209d sh.1
  have rr : ∀ q s, q < 62 → gR ρ q s = gR σ q s := fun q s h => gr q s (by omega)
  obtain ⟨po1, pn1, pg1⟩ := po_id (τ := ρ) po (fun s _ => by
    unfold slR
    rw [rr _ _ (by decide), rr _ _ (by decide), rr _ _ (by decide), rr _ _ (by decide)]) kk
  have ii : ∀ q s, q < 62 → gI ρ q s = gI σ q s := fun q s h => gi q s (by omega)
  have ll : ∀ q s, q < 62 → gL ρ q s = gL σ q s := fun q s h => gl q s (by omega)
  have nh : ∀ q, oth σ q → ¬ (hc ≤ q ∧ q < hc + 4) := fun q o => o.2 0 hc (by decide) (sR_z.trans h14)
  have w1 : cwq ρ σ := ⟨fun q s o _ => by
    have := nh q o
    exact ⟨gi q s (by omega), gl q s (by omega), gr q s (by omega)⟩, fun q _ => kd_r3 kk q, pg1⟩
  have F1 : 1 ≤ sF S0J ∧ sF S0J ≤ 4 := ⟨by decide, by decide⟩
  obtain ⟨τ, t38, q1, q2, q3⟩ := cw_kp (σ := ρ) (cf := fun _ => 0) (wf := fun _ => 0) (D := fun _ => false) (a := 0) (N := 0) (b := -1) (F := 0) (G := 0) (T := 0) (S := S0J) (K := fun _ => (S0J, 0, -1, 0, 1, 0)) (w := ((S0J, 0, 0, 0, 0, 0), (0, fun _ => (S0J, 0, -1, 0, 1, 0)), (0, fun _ => (S0J, 0, 0, 0)), 0, 0, fun _ => none)) po1 (pn1 C pn) ((rr _ _ (by decide)).trans h15) ((rr _ _ (by decide)).trans h14) (by decide) (fun k hk => absurd hk (Nat.not_lt_zero _)) (fun k hk => absurd hk (Nat.not_lt_zero _)) (fun k hk => absurd hk (Nat.not_lt_zero _)) (fun k hk => absurd hk (Nat.not_lt_zero _)) (by decide) (fun _ => by decide) (fun b hb => ⟨(rr _ _ (by decide)).trans (k60 b hb).1, (rr _ _ (by decide)).trans (k60 b hb).2⟩) (fun j hj => absurd hj (Nat.not_lt_zero _)) (by decide) (fun j hj => absurd hj (Nat.not_lt_zero _)) cS r5 r7 (by rw [if_neg (by decide)]; exact r6) (by decide) F1 (by decide) ((ii _ _ (by decide)).trans h11) ((ii _ _ (by decide)).trans f1) ((ii _ _ (by decide)).trans f2) ((ii _ _ (by decide)).trans f4) ((ii _ _ (by decide)).trans f5) ((ii _ _ (by decide)).trans f8) (fun i hi => ⟨fun S e => (by cases e), fun _ => (ii _ _ (by decide)).trans (k52 i hi)⟩) (fun x hx => by
    have e : x = 0 := by omega
    rw [if_pos e, e]
    exact ⟨fun z => (by cases z), fun z => absurd cha_s z⟩) (by
    rw [show ((0 : Nat) : Int) = 0 from rfl, up_c]
    exact df_b (S := S0J))
  have q3 : CW τ C (w5 (begK S0J) 0) := by
    rw [show ((0 : Nat) : Int) = 0 from rfl, up_c] at q3
    exact q3
  have cz : CWz τ C (begK S0J) := ⟨0, q3, Or.inr ⟨rfl, rfl⟩⟩
  have I : INV dumB dumH E p id S0J G (begK S0J) (fun _ => 0) := beg_i ⟨S0_ok, S0_m, fun f f1 f2 => by
    have f2 : f < 1 := f2
    exfalso
    omega, g0⟩
  have wτ := cwq_t q1 w1 (pn1 C pn)
  have sτ := SEc_q po pn wτ sE
  have pnτ : PCN τ C := by
    obtain ⟨cf, wf, Dd, hc, hx, hh⟩ := q3
    exact hx.2.1.2.1
  have t := L34 hE hp hG n true 0 (begK S0J) w' (fun _ => 0) τ f I beg_x beg_xi sτ cz (fun z => by cases z) (by decide) h
  rw [b2_yes (p := true = true) rfl] at t
  have e0 : gI τ 51 0 = gI σ 51 0 := q2.trans (ii _ _ (by decide))
  have ao8 : ao σ 8 (some hc) = True := aoS sh.1
  have s15 : MM 34 [mR (some 39), mR (some cc)] σ = RR (lkB tb34) (B34_15, [some (mR (some 39)), some (mR (some cc)), some (mI 1), some (mI ((0 : Nat) : Int)), none, none], [], τ) := by
    simp only [M34, e34_0, e34_7, e34_11, Option.getD_some, Option.bind_some, Option.toList_some, Option.toList_none, List.cons_append, List.nil_append, and_self, and_true, true_and, false_and, and_false, ite_self, not_true_eq_false, not_false_eq_true, reduceIte, Nat.reduceEqDiff, ab_I, ab_L, ab_R, ao_I, ao_L, ao_R, gL_sL, gI_sI, gR_sR, gI_sL, gI_sR, gL_sI, gL_sR, gR_sI, gR_sL, h14, ao8, t9, t38]
    rfl
  rw [s15]
  exact okc_m t fun τ' z => fnC_t z wτ pnτ e0
end CWLB
