/-! ===== the class's runs: operations, FUNCTION, EXIT ===== -/
/-- what the class's run moves, and nothing else -/
abbrev movC (k s : Nat) : Prop := k = 27 ∨ k = 28 ∨ (34 ≤ k ∧ k ≤ 38) ∨ k = 78 ∨ k = 79 ∨ (k = 26 ∧ s = 12) ∨ (k = 71 ∧ (s = 6 ∨ s = 7 ∨ s = 8 ∨ s = 9 ∨ s = 10 ∨ s = 15 ∨ s = 18))
def mvC (σ τ : MS) : Prop := (∀ k s, ¬ movC k s → gI τ k s = gI σ k s) ∧ (∀ k s, ¬ (k = 76 ∨ k = 77) → ¬ (k = 71 ∧ (s = 13 ∨ s = 16)) → gL τ k s = gL σ k s) ∧ τ.2.2 = σ.2.2
section CSTP
variable {σ τ ρ : MS} {c c' : TC WR} {W V : WR} {w x A : B64} {v : SV} {a r f b k n o s p m d : Nat} {l : List B64} {y g i : Int} {φ : Nat → Nat}
theorem mvC_r : mvC σ σ := ⟨fun _ _ _ => rfl, fun _ _ _ _ => rfl, rfl⟩
theorem mvC_t (a : mvC σ τ) (b : mvC τ ρ) : mvC σ ρ := ⟨fun k s z => (b.1 k s z).trans (a.1 k s z), fun k s y z => (b.2.1 k s y z).trans (a.2.1 k s y z), b.2.2.trans a.2.2⟩
theorem mvC_L {s : Nat} : mvC σ (sL σ 76 s x) := ⟨fun _ _ _ => rfl, fun k' s' z _ => by
  rw [gL_sL, if_neg (fun e => z (Or.inl e.1))], rfl⟩
theorem mvC_I {x : Int} (h : movC k s) : mvC σ (sI σ k s x) := ⟨fun k' s' z => by
  rw [gI_sI, if_neg (fun e => z (by rw [e.1, e.2]; exact h))], fun _ _ _ _ => rfl, rfl⟩
theorem mvC_z {l : List Int} : mvC σ (wzS σ 27 s l) := ⟨fun k' s' z => by
  rw [wzS_g, if_neg (fun q => z (Or.inl q.1))], fun k' s' _ _ => gL_2 (wzS_2 _ _ _) _ _, by rw [wzS_2]⟩
/-- an operation -/
theorem T193 (ho : okAlu w) : MM 193 [mR (some 71), mL w] σ = some (none, sL σ 76 (dR w) (aluX w (gL σ 76 (dR w)) (if fC w = 208 then 0#64 else sdC σ w))) := by
  have fr := fld_rng w
  have d9 : fD w ≤ 9 := ho.1.1
  have eD : fD w = ((dR w : Nat) : Int) := by show fD w = ((fD w).toNat : Int); omega
  have bD : 0 ≤ ((dR w : Nat) : Int) ∧ ((dR w : Nat) : Int) < 16 := by
    show 0 ≤ (((fD w).toNat : Nat) : Int) ∧ (((fD w).toNat : Nat) : Int) < 16
    omega
  have t1 : MM 1 [mL w] σ = some (some (mI ((dR w : Nat) : Int)), σ) := by rw [T1, eD]
  have w240 : iAnd (fOp w) 240 = fC w := mC w
  unfold aluX
  by_cases c208 : fC w = 208
  · have q := ho.2
    rw [if_pos c208] at q
    have t24 := T24 (σ := σ) (op := fOp w) (v := gL σ 76 (dR w)) q.2.2.2
    rw [if_pos c208]
    simp only [M193, e193_0, Option.getD_some, Option.bind_some, Option.toList_some, Option.toList_none, List.cons_append, List.nil_append, and_self, and_true, true_and, false_and, and_false, ite_self, not_true_eq_false, not_false_eq_true, reduceIte, Nat.reduceEqDiff, ab_I, ab_L, ab_R, ao_I, ao_L, ao_R, gL_sL, gI_sI, gR_sR, gI_sL, gI_sR, gL_sI, gL_sR, gR_sI, gR_sL, T0, e193_4, t1, e193_9, w240, c208, not_true_eq_false, if_false, T4, e193_33, g_76, bD.1, bD.2, Int.toNat_natCast, t24, e193_43]
  · have ss : rgt w → fS w ≤ 10 := fun r => by
      have q := ho.2
      rw [if_neg c208] at q
      by_cases y : fC w = 128
      · rw [if_pos y] at q
        exact absurd r q.1
      · rw [if_neg y] at q
        have q := q.1
        rw [if_pos r] at q
        exact q.1
    have t94 := T194 (σ := σ) ss
    have eC : fOp w / 16 * 16 = fC w := rfl
    have t20 := T20 (σ := σ) (op := fOp w) (off := fO w) (a := gL σ 76 (dR w)) (b := sdC σ w) fr.1.1 fr.1.2 (by rw [eC]; exact okC_of ho c208)
    have e7 : fOp w % 8 = fL w := rfl
    rw [eC, e7] at t20
    rw [if_neg c208, if_neg c208]
    simp only [M193, e193_0, Option.getD_some, Option.bind_some, Option.toList_some, Option.toList_none, List.cons_append, List.nil_append, and_self, and_true, true_and, false_and, and_false, ite_self, not_true_eq_false, not_false_eq_true, reduceIte, Nat.reduceEqDiff, ab_I, ab_L, ab_R, ao_I, ao_L, ao_R, gL_sL, gI_sI, gR_sR, gI_sL, gI_sR, gL_sI, gL_sR, gR_sI, gR_sL, T0, e193_4, t1, e193_9, w240, c208, not_false_eq_true, if_true, T3, e193_58, g_76, bD.1, bD.2, Int.toNat_natCast, t94, e193_70, t20, e193_73]
theorem alu_C (h : RelC σ φ c) (ho : okAlu w) (e : alT c w = some v) : aluX w (gL σ 76 (dR w)) (if fC w = 208 then 0#64 else sdC σ w) = enK φ v ∧ okSV v := by
  have fr := fld_rng w
  have d9 : fD w ≤ 9 := ho.1.1
  have dl : dR w ≤ 10 := by have := dR_9 d9; omega
  have hA : ¬ (rdR c (dR w)).1 = 6 → gL σ 76 (dR w) = enG (adC φ) (rdR c (dR w)) ∧ okSV (rdR c (dR w)) := fun z => rd_C h dl z
  have hB : ¬ fC w = 208 → ¬ (rgT c w).1 = 6 → sdC σ w = enG (adC φ) (rgT c w) ∧ okSV (rgT c w) := fun z y => by
    unfold sdC
    unfold rgT at y ⊢
    by_cases r : rgt w
    · rw [if_pos r] at y ⊢
      rw [if_pos r]
      have q := ho.2
      rw [if_neg z] at q
      have s10 : fS w ≤ 10 := by
        by_cases y : fC w = 128
        · rw [if_pos y] at q
          exact absurd r q.1
        · rw [if_neg y] at q
          have q := q.1
          rw [if_pos r] at q
          exact q.1
      exact rd_C h (by show (fS w).toNat ≤ 10; omega) y
    · rw [if_neg r] at y ⊢
      rw [if_neg r]
      exact ⟨enG_0.symm, okSV_0⟩
  by_cases c208 : fC w = 208
  · rw [if_pos c208]
    have ex : ∀ b, aluX w (gL σ 76 (dR w)) b = aluX w (gL σ 76 (dR w)) 0#64 := fun b => by
      unfold aluX
      rw [if_pos c208, if_pos c208]
    rw [← ex (enG (adC φ) (rgT c w))]
    refine aluX_g e ho hA (fun z => ⟨rfl, ?_⟩)
    unfold rgT at z ⊢
    have q2 := ho.2
    rw [if_pos c208] at q2
    by_cases r : rgt w
    · rw [if_pos r] at z ⊢
      exact (rd_C h (by show (fS w).toNat ≤ 10; omega) z).2
    · rw [if_neg r]
      exact okSV_0
  · rw [if_neg c208]
    exact aluX_g e ho hA (hB c208)
/-- what registers lead to is held -/
theorem rg_liv (h : livC c) (hN : cN c ≤ 4) : 300 ≤ (rdR c r).1 → (rdR c r).1 ≤ 363 ∧ ¬ wg (cW c) 152 ((rdR c r).1 - 300) = 0 := fun z => by
  unfold rdR at z ⊢
  by_cases q : r = 10
  · rw [if_pos q] at z
    have z : 300 ≤ cN c + 1 := z
    omega
  · rw [if_neg q] at z ⊢
    exact h.1 _ _ z
theorem rgT_liv (h : livC c) (hN : cN c ≤ 4) : 300 ≤ (rgT c w).1 → (rgT c w).1 ≤ 363 ∧ ¬ wg (cW c) 152 ((rgT c w).1 - 300) = 0 := fun z => by
  unfold rgT at z ⊢
  by_cases q : rgt w
  · rw [if_pos q] at z ⊢
    exact rg_liv h hN z
  · rw [if_neg q] at z
    exact absurd z (show ¬ 300 ≤ (0 : Nat) by decide)
theorem al_liv (h : livC c) (hN : cN c ≤ 4) (e : alT c w = some v) : 300 ≤ v.1 → v.1 ≤ 363 ∧ ¬ wg (cW c) 152 (v.1 - 300) = 0 := by
  have z0 : ∀ x : B64, 300 ≤ ((0, x) : SV).1 → ((0, x) : SV).1 ≤ 363 ∧ ¬ wg (cW c) 152 (((0, x) : SV).1 - 300) = 0 := fun x z => absurd z (show ¬ 300 ≤ (0 : Nat) by decide)
  unfold alT at e
  split at e
  · split at e
    · cases e; exact z0 _
    · cases e
  · split at e
    · split at e
      · split at e
        · cases e
        · cases e; exact rgT_liv h hN
      · split at e
        · cases e
        · split at e
          · cases e; exact z0 _
          · split at e
            · cases e; exact z0 _
            · cases e; exact z0 _
    · split at e
      · split at e
        · cases e
        · split at e
          · cases e; exact z0 _
          · cases e; exact z0 _
      · split at e
        · cases e; exact z0 _
        · split at e
          · cases e; exact rg_liv h hN
          · split at e
            · cases e; exact rg_liv h hN
            · split at e
              · cases e; exact rgT_liv h hN
              · cases e
/-! FUNCTION -/
theorem fn_C (h : RelC σ φ c) (hI : invW (cW c)) (n4 : ¬ cN c = 4) : ∃ τ, MM 184 [mR (some 71), mI g] σ = some (none, τ) ∧ RelC τ φ (enT c g (gI σ 71 8)) ∧ mvC σ τ ∧ gI τ 71 8 = g ∧ gI τ 71 9 = gI σ 71 9 := by
  have h' := h
  obtain ⟨⟨⟨a1, a2⟩, a3⟩, ⟨b1, b2, b3⟩, d, bk, ⟨l1, l2⟩, wl⟩ := h'
  obtain ⟨D, hD⟩ : ∃ D, D = cN c - 1 := ⟨_, rfl⟩
  have gD : gI σ 71 6 = (D : Int) := by omega
  have D3 : D < 3 := by omega
  obtain ⟨σ1, h1⟩ : ∃ σ1, σ1 = sI (sI (cpL σ 76 0 77 ((10 * D : Nat) : Int) 10) 78 D (gI σ 71 8)) 71 6 ((D + 1 : Nat) : Int) := ⟨_, rfl⟩
  have g1 : ∀ k s, gI σ1 k s = if k = 71 ∧ s = 6 then ((D + 1 : Nat) : Int) else if k = 78 ∧ s = D then gI σ 71 8 else gI σ k s := fun k s => by
    rw [h1, gI_sI, gI_sI]
    rfl
  have c0 : ∀ k s, gL σ1 k s = if k = 77 ∧ 10 * D ≤ s ∧ s < 10 * D + 10 then gL σ 76 (s - 10 * D) else gL σ k s := fun k s => by
    rw [h1, gL_sI, gL_sI]
    exact cpL_p (σ := σ) (k0 := 76) (k1 := 77) (sp := 0) (dp := 10 * D) (n := 10) (k' := k) (s := s)
  have g6 : gI σ1 71 6 = ((D + 1 : Nat) : Int) := by rw [g1, if_pos ⟨rfl, rfl⟩]
  have t3 := T183 (σ := σ1) g6 (by omega)
  obtain ⟨A, hA⟩ : ∃ A, A = iL (1048576 + ((256 + 128 * (D + 1) : Nat) : Int) + 128) := ⟨_, rfl⟩
  rw [← hA] at t3
  obtain ⟨τ, hτ⟩ : ∃ τ, τ = sI (sL (wzS σ1 27 (256 + 128 * (D + 1)) (List.replicate 128 0)) 76 10 A) 71 8 g := ⟨_, rfl⟩
  have gt : ∀ k s, gI τ k s = if k = 71 ∧ s = 8 then g else if k = 27 ∧ 256 + 128 * (D + 1) ≤ s ∧ s < 256 + 128 * (D + 1) + 128 then 0 else gI σ1 k s := fun k s => by
    rw [hτ, gI_sI, gI_sL, wzS_g, List.length_replicate]
    by_cases q : k = 71 ∧ s = 8
    · rw [if_pos q, if_pos q]
    · rw [if_neg q, if_neg q]
      by_cases q2 : k = 27 ∧ 256 + 128 * (D + 1) ≤ s ∧ s < 256 + 128 * (D + 1) + 128
      · rw [if_pos q2, if_pos q2, rep_g (by omega)]
      · rw [if_neg q2, if_neg q2]
  have lt : ∀ k s, gL τ k s = if k = 76 ∧ s = 10 then A else gL σ1 k s := fun k s => by
    rw [hτ, gL_sI, gL_sL]
    by_cases q : k = 76 ∧ s = 10
    · rw [if_pos q, if_pos q]
    · rw [if_neg q, if_neg q]
      exact gL_2 (wzS_2 _ _ _) _ _
  have pk := hI.2.2.2.1.1.2
  have s1 : -2147483648 ≤ (D : Int) + 1 ∧ (D : Int) + 1 < 2147483648 := by omega
  have s2 : -2147483648 ≤ (D : Int) * 10 ∧ (D : Int) * 10 < 2147483648 := by omega
  have e1 : (D : Int) + 1 = ((D + 1 : Nat) : Int) := by omega
  have e2 : (D : Int) * 10 = ((10 * D : Nat) : Int) := by omega
  have lt4 : ((D + 1 : Nat) : Int) < 4 := by omega
  have bD : 0 ≤ (D : Int) ∧ (D : Int) < 4 := by omega
  refine ⟨τ, ?_, ⟨⟨⟨?_, ?_⟩, ?_⟩, ⟨fun r hr => ?_, fun f r hf hr => ?_, ?_⟩, fun f b hf hb => ?_, fun f f1 f2 => ?_, ⟨fun f r z => ?_, fun f b z => ?_⟩, ?_⟩, ⟨fun k s z => ?_, fun k s z _ => ?_, ?_⟩, ?_, ?_⟩
  · have w1 : w32 ((D : Int) + 1) = ((D + 1 : Nat) : Int) := by rw [w32_i s1.1 s1.2, e1]
    have w2 : w32 ((D : Int) * 10) = ((10 * D : Nat) : Int) := by rw [w32_i s2.1 s2.2, e2]
    have ac0 : ac σ 4 76 77 0 ((10 * D : Nat) : Int) 10 := by
      have q1 : kd σ 76 = (4, 16) := rfl
      have q2 : kd σ 77 = (4, 40) := rfl
      unfold ac
      rw [q1, q2]
      refine ⟨⟨rfl, rfl⟩, ?_⟩
      dsimp only
      omega
    have gc : ∀ k s, gI (cpL σ 76 0 77 ((10 * D : Nat) : Int) 10) k s = gI σ k s := fun _ _ => rfl
    have is1 : Option.isSome (some (76 : Nat)) = true := rfl
    have is2 : Option.isSome (some (77 : Nat)) = true := rfl
    rw [M184, e184_0, gD, w1, w2, if_pos lt4, if_pos ⟨⟨is1, is2⟩, ac0⟩]
    simp only [gc, gD, Option.getD_some, Option.bind_some, Option.toList_some, Option.toList_none, List.cons_append, List.nil_append, and_self, and_true, true_and, false_and, and_false, ite_self, not_true_eq_false, not_false_eq_true, reduceIte, Nat.reduceEqDiff, ab_I, ab_L, ab_R, ao_I, ao_L, ao_R, gL_sL, gI_sI, gR_sR, gI_sL, gI_sR, gL_sI, gL_sR, gR_sI, gR_sL, g_78, bD.1, bD.2, Int.toNat_natCast, w1]
    rw [e184_60]
    have e0 : sI (sI (cpL σ 76 0 77 ((10 * D : Nat) : Int) 10) 78 D (gI σ 71 8)) 71 6 ((D + 1 : Nat) : Int) = σ1 := h1.symm
    rw [e0, t3]
    simp only [Option.getD_some, Option.bind_some, Option.toList_some, Option.toList_none, List.cons_append, List.nil_append, and_self, and_true, true_and, false_and, and_false, ite_self, not_true_eq_false, not_false_eq_true, reduceIte, Nat.reduceEqDiff, ab_I, ab_L, ab_R, ao_I, ao_L, ao_R, gL_sL, gI_sI, gR_sR, gI_sL, gI_sR, gL_sI, gL_sR, gR_sI, gR_sL, e184_64]
    rw [← hτ]
  · show 1 ≤ cN c + 1
    omega
  · show cN c + 1 ≤ 4
    omega
  · show gI τ 71 6 = ((cN c + 1 : Nat) : Int) - 1
    rw [gt, if_neg (by omega), if_neg (by omega), g6]
    omega
  · show vlC τ φ 76 r (if cN c + 1 - 1 = cN c then (if 1 ≤ r ∧ r ≤ 5 then cR c (cN c - 1) r else nilR) else cR c (cN c + 1 - 1) r)
    rw [if_pos (by omega)]
    by_cases r5 : 1 ≤ r ∧ r ≤ 5
    · rw [if_pos r5]
      refine ⟨(b1 r hr).1, fun z => ?_⟩
      rw [lt, if_neg (by omega), c0, if_neg (by omega)]
      exact (b1 r hr).2 z
    · rw [if_neg r5]
      exact ⟨okSV_n, fun z => absurd (show nilR.1 = 6 from rfl) z⟩
  · have hf : f + 1 < cN c + 1 := hf
    show vlC τ φ 77 (10 * f + r) (if f = cN c then _ else cR c f r)
    rw [if_neg (by omega)]
    by_cases q : f = D
    · have q' : f = cN c - 1 := by omega
      rw [q']
      refine ⟨(b1 r hr).1, fun z => ?_⟩
      rw [lt, if_neg (by omega), c0, if_pos ⟨rfl, by omega, by omega⟩, show 10 * (cN c - 1) + r - 10 * D = r by omega]
      exact (b1 r hr).2 z
    · refine ⟨(b2 f r (by omega) hr).1, fun z => ?_⟩
      rw [lt, if_neg (by omega), c0, if_neg (by omega)]
      exact (b2 f r (by omega) hr).2 z
  · show gL τ 76 10 = enK φ (cN c + 1 + 1, 128#64)
    rw [lt, if_pos ⟨rfl, rfl⟩, hA]
    show _ = enG (adC φ) (cN c + 1 + 1, 128#64)
    rw [enG_n (show ¬ cN c + 1 + 1 = 0 by omega), show (128#64 : B64) = BitVec.ofNat 64 128 from rfl, ad_C (by omega), pl_s (by omega)]
    exact congrArg iL (by omega)
  · show mbC φ _ (if f = cN c then (0, 0, 0#64) else cS c f b)
    by_cases q : f = cN c
    · rw [if_pos q]
      exact ⟨fun z => absurd z (show ¬ (0 : Nat) = 1 by decide), fun z => absurd z (show ¬ 2 ≤ (0 : Nat) by decide)⟩
    · rw [if_neg q, gt, if_neg (by omega), if_neg (by omega), g1, if_neg (by omega), if_neg (by omega)]
      exact d f b hf hb
  · have f2 : f < cN c + 1 := f2
    show gI τ 78 (f - 1) = (if f = cN c then gI σ 71 8 else cB c f)
    rw [gt, if_neg (by omega), if_neg (by omega), g1, if_neg (by omega)]
    by_cases q : f = cN c
    · rw [if_pos q, if_pos ⟨rfl, by omega⟩]
    · rw [if_neg q, if_neg (by omega)]
      exact bk f f1 (by omega)
  · have z : 300 ≤ (if f = cN c then (if 1 ≤ r ∧ r ≤ 5 then cR c (cN c - 1) r else nilR) else cR c f r).1 := z
    show (if f = cN c then (if 1 ≤ r ∧ r ≤ 5 then cR c (cN c - 1) r else nilR) else cR c f r).1 ≤ 363 ∧ ¬ wg (cW c) 152 ((if f = cN c then (if 1 ≤ r ∧ r ≤ 5 then cR c (cN c - 1) r else nilR) else cR c f r).1 - 300) = 0
    by_cases q : f = cN c
    · rw [if_pos q] at z ⊢
      by_cases q2 : 1 ≤ r ∧ r ≤ 5
      · rw [if_pos q2] at z ⊢
        exact l1 _ _ z
      · rw [if_neg q2] at z
        exact absurd z (by decide)
    · rw [if_neg q] at z ⊢
      exact l1 _ _ z
  · have z : 2 ≤ (if f = cN c then ((0, 0, 0#64) : MB) else cS c f b).1 := z
    show 300 ≤ (if f = cN c then ((0, 0, 0#64) : MB) else cS c f b).2.1 → (if f = cN c then ((0, 0, 0#64) : MB) else cS c f b).2.1 ≤ 363 ∧ ¬ wg (cW c) 152 ((if f = cN c then ((0, 0, 0#64) : MB) else cS c f b).2.1 - 300) = 0
    by_cases q : f = cN c
    · rw [if_pos q] at z
      exact absurd z (show ¬ 2 ≤ (0 : Nat) by decide)
    · rw [if_neg q] at z ⊢
      exact l2 f b z
  · refine wldC_q wl pk (fun k s z => ?_) ?_ ?_
    · rw [gt, if_neg (by omega), if_neg (by omega), g1, if_neg (by omega), if_neg (by omega)]
    · rw [lt, if_neg (by omega), c0, if_neg (by omega)]
    · rw [lt, if_neg (by omega), c0, if_neg (by omega)]
  · rw [gt, if_neg (by omega), if_neg (by omega), g1, if_neg (by omega), if_neg (by omega)]
  · rw [lt, if_neg (by omega), c0, if_neg (by omega)]
  · rw [hτ]
    show (wzS _ _ _ _).2.2 = _
    rw [wzS_2, h1]
    rfl
  · rw [gt, if_pos ⟨rfl, rfl⟩]
  · rw [gt, if_neg (by omega), if_neg (by omega), g1, if_neg (by omega), if_neg (by omega)]
/-! EXIT -/
theorem ex_C (h : RelC σ φ c) (hI : invW (cW c)) (e : exT c = some (k, c')) : ∃ τ, MM 185 [mR (some 71)] σ = some (none, τ) ∧ mvC σ τ ∧ RelC τ φ c' ∧ ((k = 0 ∧ gI τ 71 8 = cP c' ∧ gI τ 71 9 = gI σ 71 9) ∨ (k = 1 ∧ gI τ 71 9 = 1 ∧ c' = c ∧ gL τ 76 0 = (rdR c 0).2)) := by
  have h' := h
  obtain ⟨⟨⟨a1, a2⟩, a3⟩, ⟨b1, b2, b3⟩, d, bk, ⟨l1, l2⟩, wl⟩ := h'
  have pk := hI.2.2.2.1.1.2
  unfold exT at e
  by_cases n0 : ¬ (rdR c 0).1 = 0
  · rw [if_pos n0] at e
    cases e
  · rw [if_neg n0] at e
    have z0 : (rdR c 0).1 = 0 := Decidable.byContradiction n0
    obtain ⟨r0, _⟩ := rd_C h (r := 0) (by decide) (by omega)
    have r0 : gL σ 76 0 = (rdR c 0).2 := r0.trans (enG_z z0)
    by_cases f1 : cN c = 1
    · rw [if_pos f1] at e
      cases e
      have gz : gI σ 71 6 = 0 := by omega
      have g : ∀ k s, ¬ (k = 71 ∧ s = 9) → gI (sI σ 71 9 1) k s = gI σ k s := fun k s z => by rw [gI_sI, if_neg z]
      refine ⟨sI σ 71 9 1, ?_, mvC_I (by omega), ⟨⟨⟨a1, a2⟩, (g _ _ (by omega)).trans a3⟩, ⟨b1, b2, b3⟩, fun f b hf hb => ?_, fun f f1 f2 => (g _ _ (by omega)).trans (bk f f1 f2), ⟨l1, l2⟩, wldC_q wl pk (fun k s z => g _ _ (by omega)) rfl rfl⟩, Or.inr ⟨rfl, ?_, rfl, r0⟩⟩
      · simp only [M185, e185_0, gz, not_true_eq_false, if_false]
      · rw [g _ _ (by omega)]
        exact d f b hf hb
      · rw [gI_sI, if_pos ⟨rfl, rfl⟩]
    · rw [if_neg f1] at e
      obtain ⟨ek, ec⟩ := Prod.mk.inj (Option.some.inj e)
      obtain ⟨D, hD⟩ : ∃ D, D = cN c - 2 := ⟨_, rfl⟩
      have gD : gI σ 71 6 = ((D + 1 : Nat) : Int) := by omega
      have D3 : D < 3 := by omega
      have nz : ¬ ((D + 1 : Nat) : Int) = 0 := by omega
      obtain ⟨σ1, h1⟩ : ∃ σ1, σ1 = cpL (sI σ 71 6 (D : Int)) 77 ((10 * D + 1 : Nat) : Int) 76 1 9 := ⟨_, rfl⟩
      have g1 : ∀ k s, gI σ1 k s = if k = 71 ∧ s = 6 then (D : Int) else gI σ k s := fun k s => by
        rw [h1]
        show gI (sI σ 71 6 (D : Int)) k s = _
        rw [gI_sI]
      have c0 : ∀ k s, gL σ1 k s = if k = 76 ∧ 1 ≤ s ∧ s < 1 + 9 then gL σ 77 (s - 1 + (10 * D + 1)) else gL σ k s := fun k s => by
        rw [h1]
        exact cpL_p (σ := sI σ 71 6 (D : Int)) (k0 := 77) (k1 := 76) (sp := 10 * D + 1) (dp := 1) (n := 9) (k' := k) (s := s)
      obtain ⟨A, hA⟩ : ∃ A, A = iL 1048832 + iL ((128 * (D + 1) : Nat) : Int) := ⟨_, rfl⟩
      have bkD : gI σ 78 D = cB c (cN c - 1) := by
        have := bk (cN c - 1) (by omega) (by omega)
        rwa [show cN c - 1 - 1 = D by omega] at this
      obtain ⟨τ, hτ⟩ : ∃ τ, τ = sI (sL σ1 76 10 A) 71 8 (cB c (cN c - 1)) := ⟨_, rfl⟩
      have gt : ∀ k s, gI τ k s = if k = 71 ∧ s = 8 then cB c (cN c - 1) else if k = 71 ∧ s = 6 then (D : Int) else gI σ k s := fun k s => by
        rw [hτ, gI_sI, gI_sL, g1]
      have lt : ∀ k s, gL τ k s = if k = 76 ∧ s = 10 then A else if k = 76 ∧ 1 ≤ s ∧ s < 1 + 9 then gL σ 77 (s - 1 + (10 * D + 1)) else gL σ k s := fun k s => by
        rw [hτ, gL_sI, gL_sL, c0]
      have s1 : -2147483648 ≤ ((D + 1 : Nat) : Int) - 1 ∧ ((D + 1 : Nat) : Int) - 1 < 2147483648 := by omega
      have s2 : -2147483648 ≤ (D : Int) * 10 ∧ (D : Int) * 10 < 2147483648 := by omega
      have s3 : -2147483648 ≤ (D : Int) * 10 + 1 ∧ (D : Int) * 10 + 1 < 2147483648 := by omega
      have s4 : -2147483648 ≤ (D : Int) + 1 ∧ (D : Int) + 1 < 2147483648 := by omega
      have s5 : -2147483648 ≤ ((D : Int) + 1) * 128 ∧ ((D : Int) + 1) * 128 < 2147483648 := by omega
      have e1 : ((D + 1 : Nat) : Int) - 1 = (D : Int) := by omega
      have e3 : (D : Int) * 10 + 1 = ((10 * D + 1 : Nat) : Int) := by omega
      have e5 : ((D : Int) + 1) * 128 = ((128 * (D + 1) : Nat) : Int) := by omega
      have bD : 0 ≤ (D : Int) ∧ (D : Int) < 4 := by omega
      have rel : RelC τ φ c' := by
        rw [← ec]
        refine ⟨⟨⟨?_, ?_⟩, ?_⟩, ⟨fun r hr => ?_, fun f r hf hr => ?_, ?_⟩, fun f b hf hb => ?_, fun f f1 f2 => ?_, ⟨fun f r z => ?_, l2⟩, ?_⟩
        · show 1 ≤ cN c - 1
          omega
        · show cN c - 1 ≤ 4
          omega
        · show gI τ 71 6 = ((cN c - 1 : Nat) : Int) - 1
          rw [gt, if_neg (by omega), if_pos ⟨rfl, rfl⟩]
          omega
        · show vlC τ φ 76 r (if cN c - 1 - 1 = cN c - 2 ∧ 1 ≤ r ∧ r ≤ 5 then nilR else (if cN c - 1 - 1 = cN c - 2 ∧ r = 0 then rdR c 0 else cR c (cN c - 1 - 1) r))
          by_cases q1 : cN c - 1 - 1 = cN c - 2 ∧ 1 ≤ r ∧ r ≤ 5
          · rw [if_pos q1]
            exact ⟨okSV_n, fun z => absurd (show nilR.1 = 6 from rfl) z⟩
          · rw [if_neg q1]
            by_cases q2 : cN c - 1 - 1 = cN c - 2 ∧ r = 0
            · rw [if_pos q2]
              refine ⟨okSV_z z0, fun _ => ?_⟩
              rw [q2.2, lt, if_neg (by omega), if_neg (by omega), r0]
              exact (enG_z z0).symm
            · rw [if_neg q2]
              have q := b2 (cN c - 1 - 1) r (by omega) hr
              refine ⟨q.1, fun z => ?_⟩
              rw [lt, if_neg (by omega), if_pos ⟨rfl, by omega, by omega⟩, show r - 1 + (10 * D + 1) = 10 * (cN c - 1 - 1) + r by omega]
              exact q.2 z
        · have hf : f + 1 < cN c - 1 := hf
          show vlC τ φ 77 (10 * f + r) (if f = cN c - 2 ∧ 1 ≤ r ∧ r ≤ 5 then nilR else (if f = cN c - 2 ∧ r = 0 then rdR c 0 else cR c f r))
          rw [if_neg (by omega), if_neg (by omega)]
          have q := b2 f r (by omega) hr
          refine ⟨q.1, fun z => ?_⟩
          rw [lt, if_neg (by omega), if_neg (by omega)]
          exact q.2 z
        · show gL τ 76 10 = enK φ (cN c - 1 + 1, 128#64)
          rw [lt, if_pos ⟨rfl, rfl⟩, hA, iLa]
          show _ = enG (adC φ) (cN c - 1 + 1, 128#64)
          rw [enG_n (show ¬ cN c - 1 + 1 = 0 by omega), show (128#64 : B64) = BitVec.ofNat 64 128 from rfl, ad_C (by omega), pl_s (by omega)]
          exact congrArg iL (by omega)
        · rw [gt, if_neg (by omega), if_neg (by omega)]
          exact d f b hf hb
        · have f2 : f < cN c - 1 := f2
          rw [gt, if_neg (by omega), if_neg (by omega)]
          exact bk f f1 (by omega)
        · have z : 300 ≤ (if f = cN c - 2 ∧ 1 ≤ r ∧ r ≤ 5 then nilR else (if f = cN c - 2 ∧ r = 0 then rdR c 0 else cR c f r)).1 := z
          show (if f = cN c - 2 ∧ 1 ≤ r ∧ r ≤ 5 then nilR else (if f = cN c - 2 ∧ r = 0 then rdR c 0 else cR c f r)).1 ≤ 363 ∧ ¬ wg (cW c) 152 ((if f = cN c - 2 ∧ 1 ≤ r ∧ r ≤ 5 then nilR else (if f = cN c - 2 ∧ r = 0 then rdR c 0 else cR c f r)).1 - 300) = 0
          by_cases q1 : f = cN c - 2 ∧ 1 ≤ r ∧ r ≤ 5
          · rw [if_pos q1] at z
            exact absurd z (by decide)
          · rw [if_neg q1] at z ⊢
            by_cases q2 : f = cN c - 2 ∧ r = 0
            · rw [if_pos q2] at z
              omega
            · rw [if_neg q2] at z ⊢
              exact l1 _ _ z
        · refine wldC_q wl pk (fun k s z => ?_) ?_ ?_
          · rw [gt, if_neg (by omega), if_neg (by omega)]
          · rw [lt, if_neg (by omega), if_neg (by omega)]
          · rw [lt, if_neg (by omega), if_neg (by omega)]
      refine ⟨τ, ?_, ⟨fun k s z => ?_, fun k s z _ => ?_, ?_⟩, rel, Or.inl ⟨ek.symm, ?_, ?_⟩⟩
      · have w1 : w32 (((D + 1 : Nat) : Int) - 1) = (D : Int) := by rw [w32_i s1.1 s1.2, e1]
        have w3 : w32 (w32 ((D : Int) * 10) + 1) = ((10 * D + 1 : Nat) : Int) := by rw [w32_i s2.1 s2.2, w32_i s3.1 s3.2, e3]
        have w5 : w32 (w32 ((D : Int) + 1) * 128) = ((128 * (D + 1) : Nat) : Int) := by rw [w32_i s4.1 s4.2, w32_i s5.1 s5.2, e5]
        have g6 : gI (sI σ 71 6 (D : Int)) 71 6 = (D : Int) := by rw [gI_sI, if_pos ⟨rfl, rfl⟩]
        have ac0 : ac σ 4 77 76 ((10 * D + 1 : Nat) : Int) 1 9 := by
          have q1 : kd σ 77 = (4, 40) := rfl
          have q2 : kd σ 76 = (4, 16) := rfl
          unfold ac
          rw [q1, q2]
          refine ⟨⟨rfl, rfl⟩, ?_⟩
          dsimp only
          omega
        have is1 : Option.isSome (some (77 : Nat)) = true := rfl
        have is2 : Option.isSome (some (76 : Nat)) = true := rfl
        have gc : gI (cpL (sI σ 71 6 (D : Int)) 77 ((10 * D + 1 : Nat) : Int) 76 1 9) 71 6 = (D : Int) := g6
        rw [M185, e185_0, gD, if_pos nz, w1, g6, w3, if_pos ⟨⟨is1, is2⟩, ac0⟩, gc, w5]
        simp only [Option.getD_some, Option.bind_some, Option.toList_some, Option.toList_none, List.cons_append, List.nil_append, and_self, and_true, true_and, false_and, and_false, ite_self, not_true_eq_false, not_false_eq_true, reduceIte, Nat.reduceEqDiff, ab_I, ab_L, ab_R, ao_I, ao_L, ao_R, gL_sL, gI_sI, gR_sR, gI_sL, gI_sR, gL_sI, gL_sR, gR_sI, gR_sL, g_76, Int.reduceLE, Int.reduceLT]
        have ti : (10 : Int).toNat = 10 := rfl
        have g6' : gI (sL σ1 76 10 A) 71 6 = (D : Int) := by rw [gI_sL, g1, if_pos ⟨rfl, rfl⟩]
        have g78 : gI (sL σ1 76 10 A) 78 D = cB c (cN c - 1) := by rw [gI_sL, g1, if_neg (by omega)]; exact bkD
        rw [ti, ← h1, ← hA, e185_68, g6']
        simp only [Option.getD_some, Option.bind_some, Option.toList_some, Option.toList_none, List.cons_append, List.nil_append, and_self, and_true, true_and, false_and, and_false, ite_self, not_true_eq_false, not_false_eq_true, reduceIte, Nat.reduceEqDiff, ab_I, ab_L, ab_R, ao_I, ao_L, ao_R, gL_sL, gI_sI, gR_sR, gI_sL, gI_sR, gL_sI, gL_sR, gR_sI, gR_sL, g_78, bD.1, bD.2, Int.toNat_natCast, g78]
        rw [← hτ]
      · rw [gt, if_neg (by omega), if_neg (by omega)]
      · rw [lt, if_neg (by omega), if_neg (by omega)]
      · rw [hτ, h1]
        rfl
      · rw [gt, if_pos ⟨rfl, rfl⟩, ← ec]
      · rw [gt, if_neg (by omega), if_neg (by omega)]
end CSTP
