/-! ===== the reference: a statement, whole ===== -/
/-- a statement, up to its word -/
noncomputable def pSt2 (t : Nat → Int) (T : Nat → TK) (M k : Nat) : Int ⊕ (SR × Nat) := bS (pStm t T k) fun q => if ¬ (tK (T q.2) = 1 ∨ tK (T q.2) = 0) then .inl (tB (T q.2) : Int) else @ite _ (okF q.1 M) (Classical.propDecidable _) (.inr q) (.inl (tB (T k) : Int))
/-- words are made -/
def rfs (τ σ : MS) : Prop := (∀ k s, ¬ (k = 80 ∧ ((8 ≤ s ∧ s ≤ 14) ∨ s = 16 ∨ (25 ≤ s ∧ s ≤ 37))) → ¬ (90 ≤ k ∧ k ≤ 93) → gI τ k s = gI σ k s) ∧ (∀ k s, ¬ (k = 80 ∧ (s = 12 ∨ s = 32)) → ¬ k = 86 → gL τ k s = gL σ k s) ∧ τ.2.2 = σ.2.2
def snW (r : SR) : Nat := if r.2.1.2.2 = 0 then 1 else 2
section RSW
variable {t : Nat → Int} {n i j k m u M : Nat} {σ τ ρ υ : MS} {c d e o w x x1 x2 x3 x4 y s f g B : Int} {v : B64} {q : B64 × Int} {T : TK} {r : SR}
theorem rfs_r (h : rfr τ σ) : rfs τ σ := ⟨fun k s a b => h.1 k s (by omega) b, fun k s a b => h.2.1 k s a, h.2.2⟩
theorem g86 (h : m < 204) : (Option.isSome (some 86) = true ∧ ab σ 4 86 (m : Int)) := by rw [g_86]; omega
/-- a statement's word is made -/
theorem T371 (h14 : gI σ 80 14 = -1) (a1 : gI σ 80 26 = r.1.1 ∧ gI σ 80 27 = r.1.2.1 ∧ gI σ 80 28 = r.1.2.2.1 ∧ gI σ 80 29 = r.1.2.2.2.1 ∧ gI σ 80 30 = r.1.2.2.2.2) (a2 : gI σ 80 31 = r.2.1.1 ∧ (¬ r.2.1.1 = 0 ∨ ¬ r.2.1.2.2 = 0 → gL σ 80 32 = r.2.1.2.1) ∧ gI σ 80 33 = r.2.1.2.2) (hM : gI σ 80 16 = (M : Int)) (hM2 : M ≤ 200) : (okF r M → okc (MM 371 [mR (some 80), mI f, mI g] σ) none (fun τ => gI τ 80 16 = ((M + snW r : Nat) : Int) ∧ gL τ 86 M = srW r ∧ (¬ r.2.1.2.2 = 0 → gL τ 86 (M + 1) = r.2.1.2.1) ∧ (∀ k s, ¬ (k = 80 ∧ s = 16) → gI τ k s = gI σ k s) ∧ (∀ k s, ¬ (k = 86 ∧ M ≤ s) → gL τ k s = gL σ k s) ∧ τ.2.2 = σ.2.2)) ∧ (¬ okF r M → MM 371 [mR (some 80), mI f, mI g] σ = some (none, sI σ 80 14 f)) := by
  obtain ⟨b1, b2', b3, b4, b5⟩ := a1
  obtain ⟨d1, d2, d3⟩ := a2
  obtain ⟨W, hW⟩ : ∃ W, W = srW r := ⟨_, rfl⟩
  have s37 : MM 371 [mR (some 80), mI f, mI g] σ = RR (lkB tb371) (B371_37, [some (mR (some 80)), some (mI f), some (mI g), none, none, none], [mL W], σ) := by
    rw [M371, e371_0, d1, hW]
    unfold srW
    by_cases c : r.2.1.1 = 0
    · rw [if_pos c, if_pos c, b1, b2', b3, b4, b5, T337]
      simp only [Option.bind_some, Option.toList_some, Option.toList_none, List.cons_append, List.nil_append]
    · rw [if_neg c, if_neg c, d2 (Or.inl c)]
  have s108 : ∀ y5 : Int, RR (lkB tb371) (B371_108, [some (mR (some 80)), some (mI f), some (mI g), some (mL W), none, some (mI y5)], [], σ) = some (none, sI σ 80 14 f) := fun y5 => by
    rw [e371_108, T359g h14]
    simp only [Option.bind_some, Option.toList_some, Option.toList_none, List.cons_append, List.nil_append]
    rw [e371_113]
  -- whether it is an instruction
  have s78 : ∃ P : Prop, (P ↔ (¬ r.2.1.1 = 0 ∨ (r.2.1.2.2 = 0 ∧ okPl (srW r)) ∨ (¬ r.2.1.2.2 = 0 ∧ okPr (srW r) r.2.1.2.1))) ∧ (P → RR (lkB tb371) (B371_37, [some (mR (some 80)), some (mI f), some (mI g), none, none, none], [mL W], σ) = RR (lkB tb371) (B371_78, [some (mR (some 80)), some (mI f), some (mI g), some (mL W), none, none], [mI 1], σ)) ∧ (¬ P → RR (lkB tb371) (B371_37, [some (mR (some 80)), some (mI f), some (mI g), none, none, none], [mL W], σ) = RR (lkB tb371) (B371_78, [some (mR (some 80)), some (mI f), some (mI g), some (mL W), none, none], [mI 0], σ)) := by
    refine ⟨_, Iff.rfl, fun hp => ?_, fun hp => ?_⟩
    · rw [e371_37, d1, d3]
      by_cases c : r.2.1.1 = 0
      · rw [if_neg (fun z => z c)]
        by_cases c2 : r.2.1.2.2 = 0
        · have pl : okPl W := by
            rw [hW]
            exact (hp.resolve_left (fun z => z c)).elim (fun z => z.2) (fun z => absurd c2 z.1)
          rw [if_pos c2, T343]
          simp only [Option.bind_some, Option.toList_some, Option.toList_none, List.cons_append, List.nil_append]
          rw [e371_70, b2_yes pl, if_neg n10, e371_73]
        · have pr : okPr W r.2.1.2.1 := by
            rw [hW]
            exact (hp.resolve_left (fun z => z c)).elim (fun z => absurd z.1 c2) (fun z => z.2)
          rw [if_neg c2, d2 (Or.inr c2), T344]
          simp only [Option.bind_some, Option.toList_some, Option.toList_none, List.cons_append, List.nil_append]
          rw [e371_60, b2_yes pr, if_neg n10, e371_73]
      · rw [if_pos c, e371_73]
    · have c : r.2.1.1 = 0 := Classical.byContradiction fun z => hp (Or.inl z)
      rw [e371_37, d1, d3, if_neg (fun z => z c)]
      by_cases c2 : r.2.1.2.2 = 0
      · have pl : ¬ okPl W := by
          rw [hW]
          exact fun z => hp (Or.inr (Or.inl ⟨c2, z⟩))
        rw [if_pos c2, T343]
        simp only [Option.bind_some, Option.toList_some, Option.toList_none, List.cons_append, List.nil_append]
        rw [e371_70, b2_no pl, if_pos y00, e371_77]
      · have pr : ¬ okPr W r.2.1.2.1 := by
          rw [hW]
          exact fun z => hp (Or.inr (Or.inr ⟨c2, z⟩))
        rw [if_neg c2, d2 (Or.inr c2), T344]
        simp only [Option.bind_some, Option.toList_some, Option.toList_none, List.cons_append, List.nil_append]
        rw [e371_60, b2_no pr, if_pos y00, e371_77]
  obtain ⟨P, p1, p2, p3⟩ := s78
  have p16 : ∀ y : Int, gI (sL σ 86 M W) 80 16 = (M : Int) := fun _ => hM
  rw [s37]
  refine ⟨fun ok => ?_, fun no => ?_⟩
  · obtain ⟨o1, o2⟩ := ok
    rw [p2 (p1.mpr o1), e371_78, if_neg n10, d3, hM]
    have q33 : gI (sI (sL σ 86 M W) 80 16 ((M + 1 : Nat) : Int)) 80 33 = r.2.1.2.2 := by rw [fO_ (by decide)]; exact d3
    by_cases c2 : r.2.1.2.2 = 0
    · rw [if_pos c2] at o2
      have sn : snW r = 1 := if_pos c2
      rw [if_pos c2, e371_101, hM, w32_s1 (show M < 100000 by omega), if_pos (show ((M + 1 : Nat) : Int) ≤ 200 by omega), if_pos (g86 (by omega)), Int.toNat_natCast, p16 0, w32_s1 (show M < 100000 by omega), q33, if_pos c2, sn]
      refine okc_s ⟨fS_, ?_, fun z => absurd c2 z, fun k s q => ?_, fun k s q => ?_, rfl⟩
      · rw [gL_sI, gL_sL, if_pos ⟨rfl, rfl⟩, hW]
      · rw [gI_sI, if_neg q]; rfl
      · rw [gL_sI, gL_sL, if_neg (by omega)]
    · rw [if_neg c2] at o2
      have sn : snW r = 2 := if_neg c2
      have q16 : gI (sI (sL σ 86 M W) 80 16 ((M + 1 : Nat) : Int)) 80 16 = ((M + 1 : Nat) : Int) := fS_
      have q32 : gL (sI (sL σ 86 M W) 80 16 ((M + 1 : Nat) : Int)) 80 32 = r.2.1.2.1 := by
        rw [gL_sI, gL_sL, if_neg (by omega)]
        exact d2 (Or.inr c2)
      have l2 : ((M + 2 : Nat) : Int) ≤ 200 := by omega
      have b1' : (Option.isSome (some 86) = true ∧ ab σ 4 86 (M : Int)) := g86 (by omega)
      have b2'' : (Option.isSome (some 86) = true ∧ ab σ 4 86 ((M + 1 : Nat) : Int)) := g86 (by omega)
      have l1 : M + 1 < 100000 := by omega
      have l0 : M < 100000 := by omega
      have l3 : M + 2 < 100001 := by omega
      rw [if_neg c2, e371_101, hM, show w32 ((M : Int) + 2) = ((M + 2 : Nat) : Int) from w32_a (a := M) (b := 2) l3, if_pos l2, if_pos b1', Int.toNat_natCast, p16 0, w32_s1 l0, q33, if_neg c2, q16, if_pos b2'', Int.toNat_natCast, q32, e371_154, gI_sL, q16, w32_s1 l1, sn]
      refine okc_s ⟨fS_, ?_, fun _ => ?_, fun k s q => ?_, fun k s q => ?_, rfl⟩
      · rw [gL_sI, gL_sL, if_neg (by omega), gL_sI, gL_sL, if_pos ⟨rfl, rfl⟩, hW]
      · rw [gL_sI, gL_sL, if_pos ⟨rfl, rfl⟩]
      · rw [gI_sI, if_neg q, gI_sL, gI_sI, if_neg q]; rfl
      · rw [gL_sI, gL_sL, if_neg (by omega), gL_sI, gL_sL, if_neg (by omega)]
  · by_cases hp : P
    · have nl : ¬ M + (if r.2.1.2.2 = 0 then 1 else 2) ≤ 200 := fun z => no ⟨p1.mp hp, z⟩
      rw [p2 hp, e371_78, if_neg n10, d3, hM]
      by_cases c2 : r.2.1.2.2 = 0
      · rw [if_pos c2] at nl
        rw [if_pos c2, e371_101, w32_s1 (show M < 100000 by omega), if_neg (show ¬ ((M + 1 : Nat) : Int) ≤ 200 by omega), s108]
      · rw [if_neg c2] at nl
        rw [if_neg c2, e371_101, show w32 ((M : Int) + 2) = ((M + 2 : Nat) : Int) from w32_a (a := M) (b := 2) (by omega), if_neg (show ¬ ((M + 2 : Nat) : Int) ≤ 200 by omega), s108]
    · rw [p3 hp, e371_78, if_pos y00, s108]
/-- a statement -/
theorem T370 (h : RG σ t n k) (hu : gI σ 80 25 = (u : Int)) (hu2 : u < 203) (hM : gI σ 80 16 = (M : Int)) (hM2 : M ≤ 200) : okc (MM 370 [mR (some 80)] σ) none (fun τ => oR (pSt2 t (tks t n) M k) (eR σ τ) (fun q => rfs τ σ ∧ RG τ t n q.2 ∧ gI τ 80 16 = ((M + snW q.1 : Nat) : Int) ∧ gL τ 86 M = srW q.1 ∧ (¬ q.1.2.1.2.2 = 0 → gL τ 86 (M + 1) = q.1.2.1.2.1) ∧ (∀ s, s < M → gL τ 86 s = gL σ 86 s) ∧ lnR t n τ σ q.1.2.2 (wdO q.1.1.1))) := by
  obtain ⟨b, hb⟩ : ∃ b : Nat, b = tB (tks t n k) := ⟨_, rfl⟩
  obtain ⟨ρ, hρ⟩ : ∃ ρ, ρ = sI (sI (sI (sI (sI (sI (sI σ 80 26 0) 80 27 0) 80 28 0) 80 29 0) 80 30 0) 80 31 0) 80 33 0 := ⟨_, rfl⟩
  have fρ : rfn ρ σ := by rw [hρ]; exact rfn_t (rfn_I ⟨by omega, by omega⟩) (rfn_t (rfn_I ⟨by omega, by omega⟩) (rfn_t (rfn_I ⟨by omega, by omega⟩) (rfn_t (rfn_I ⟨by omega, by omega⟩) (rfn_t (rfn_I ⟨by omega, by omega⟩) (rfn_t (rfn_I ⟨by omega, by omega⟩) (rfn_I ⟨by omega, by omega⟩))))))
  have gρ : RG ρ t n k := by rw [hρ]; exact RG_I (RG_I (RG_I (RG_I (RG_I (RG_I (RG_I h (by omega)) (by omega)) (by omega)) (by omega)) (by omega)) (by omega)) (by omega)
  have zρ : stO_ ρ := by
    rw [hρ]
    refine ⟨?_, ?_, ?_, ?_, ?_, ?_, fS_⟩
    · rw [fO_ (by decide), fO_ (by decide), fO_ (by decide), fO_ (by decide), fO_ (by decide), fO_ (by decide), fS_]
    · rw [fO_ (by decide), fO_ (by decide), fO_ (by decide), fO_ (by decide), fO_ (by decide), fS_]
    · rw [fO_ (by decide), fO_ (by decide), fO_ (by decide), fO_ (by decide), fS_]
    · rw [fO_ (by decide), fO_ (by decide), fO_ (by decide), fS_]
    · rw [fO_ (by decide), fO_ (by decide), fS_]
    · rw [fO_ (by decide), fS_]
  have u25 : gI ρ 80 25 = (u : Int) := (fρ.1 _ _ (by omega)).trans hu
  have m16 : gI ρ 80 16 = (M : Int) := (fρ.1 _ _ (by omega)).trans hM
  -- behind the statement's words
  have s289 : ∀ τ : MS, oR (pStm t (tks t n) k) (eR ρ τ) (stP t n ρ τ) → okc (RR (lkB tb370) (B370_289, [some (mR (some 80)), some (mI (b : Int)), some (mI (M : Int))], [], τ)) none (fun τ => oR (pSt2 t (tks t n) M k) (eR σ τ) (fun q => rfs τ σ ∧ RG τ t n q.2 ∧ gI τ 80 16 = ((M + snW q.1 : Nat) : Int) ∧ gL τ 86 M = srW q.1 ∧ (¬ q.1.2.1.2.2 = 0 → gL τ 86 (M + 1) = q.1.2.1.2.1) ∧ (∀ s, s < M → gL τ 86 s = gL σ 86 s) ∧ lnR t n τ σ q.1.2.2 (wdO q.1.1.1))) := fun τ p => by
    have bad : ∀ (τ : MS) (e : Int), eR ρ τ e → okc (RR (lkB tb370) (B370_319, [some (mR (some 80)), some (mI (b : Int)), some (mI (M : Int))], [], τ)) none (fun τ => eR σ τ e) := fun τ e p => by
      rw [e370_319, T358b (by rw [p.2.1]; exact p.2.2)]
      simp only [Option.bind_some, Option.toList_some, Option.toList_none, List.cons_append, List.nil_append]
      rw [e370_323, if_pos y00, e370_332]
      exact okc_s ⟨rfr_t p.1 (rfr_n fρ), p.2⟩
    rw [e370_289]
    unfold pSt2
    cases hp : pStm t (tks t n) k with
    | inl e =>
      rw [hp] at p
      rw [T358b (by rw [p.2.1]; exact p.2.2)]
      simp only [Option.bind_some, Option.toList_some, Option.toList_none, List.cons_append, List.nil_append]
      rw [e370_293, if_pos y00]
      exact bad τ e p
    | inr q =>
      rw [hp] at p
      obtain ⟨q1, q2, q3, q4, q5⟩ := p
      obtain ⟨R, J⟩ := q
      have q2 : RG τ t n J := q2
      have q3 : gI τ 80 26 = R.1.1 ∧ gI τ 80 27 = R.1.2.1 ∧ gI τ 80 28 = R.1.2.2.1 ∧ gI τ 80 29 = R.1.2.2.2.1 ∧ gI τ 80 30 = R.1.2.2.2.2 := q3
      have q4 : gI τ 80 31 = R.2.1.1 ∧ (¬ R.2.1.1 = 0 ∨ ¬ R.2.1.2.2 = 0 → gL τ 80 32 = R.2.1.2.1) ∧ gI τ 80 33 = R.2.1.2.2 := q4
      have m2 : gI τ 80 16 = (M : Int) := (q1.1 80 16 (by omega) (by omega)).trans m16
      rw [T358g q2.2.2]
      simp only [Option.bind_some, Option.toList_some, Option.toList_none, List.cons_append, List.nil_append]
      rw [e370_293, if_neg n10, RG_9 q2]
      show okc _ none (fun τ => oR (if ¬ (tK (tks t n J) = 1 ∨ tK (tks t n J) = 0) then .inl (tB (tks t n J) : Int) else @ite _ (okF R M) (Classical.propDecidable _) (.inr (R, J)) (.inl (tB (tks t n k) : Int))) _ _)
      by_cases ce : tK (tks t n J) = 1 ∨ tK (tks t n J) = 0
      · rw [if_neg (show ¬ ¬ (tK (tks t n J) = 1 ∨ tK (tks t n J) = 0) from fun z => z ce)]
        obtain ⟨f1, f2⟩ := T371 (f := (b : Int)) (g := (M : Int)) q2.2.2 q3 q4 m2 hM2
        have s319 : okc (RR (lkB tb370) (B370_319, [some (mR (some 80)), some (mI (b : Int)), some (mI (M : Int))], [], τ)) none (fun τ => oR (@ite _ (okF R M) (Classical.propDecidable _) (.inr (R, J)) (.inl (tB (tks t n k) : Int))) (eR σ τ) (fun q => rfs τ σ ∧ RG τ t n q.2 ∧ gI τ 80 16 = ((M + snW q.1 : Nat) : Int) ∧ gL τ 86 M = srW q.1 ∧ (¬ q.1.2.1.2.2 = 0 → gL τ 86 (M + 1) = q.1.2.1.2.1) ∧ (∀ s, s < M → gL τ 86 s = gL σ 86 s) ∧ lnR t n τ σ q.1.2.2 (wdO q.1.1.1))) := by
          rw [e370_319, T358g q2.2.2]
          simp only [Option.bind_some, Option.toList_some, Option.toList_none, List.cons_append, List.nil_append]
          rw [e370_323, if_neg n10]
          by_cases ok : okF R M
          · rw [if_pos ok]
            refine okc_b (f1 ok) fun υ p => ?_
            show okc (RR (lkB tb370) (B370_332, [some (mR (some 80)), some (mI (b : Int)), some (mI (M : Int))], [], υ)) none _
            rw [e370_332]
            obtain ⟨g1, g2, g3, g4, g5, g6⟩ := p
            refine okc_s ⟨⟨fun k s a b => ?_, fun k s a b => ?_, g6.trans (q1.2.2.trans fρ.2.2)⟩, ?_, g1, g2, g3, fun s hs => ?_, ?_⟩
            · rw [g4 _ _ (by omega), q1.1 _ _ (by omega) b, fρ.1 _ _ (by omega)]
            · rw [g5 _ _ (by omega), q1.2.1 _ _ a, fρ.2.1 _ _ a]
            · exact RG_q q2 (fun s z => g4 _ _ (by omega)) (g5 _ _ (by omega)) (fun s => g4 _ _ (by omega))
            · rw [g5 _ _ (by omega), q1.2.1 _ _ (by omega), fρ.2.1 _ _ (by omega)]
            · have l := lnR_q q5 fρ
              show lnR t n υ σ R.2.2 (wdO R.1.1)
              have l : lnR t n τ σ R.2.2 (wdO R.1.1) := l
              cases hR : R.2.2 with
              | none =>
                rw [hR] at l
                exact ⟨fun k s a1 a2 => (g4 k s (by omega)).trans (l.1 k s a1 a2), (g4 80 25 (by omega)).trans l.2⟩
              | some j =>
                rw [hR] at l
                obtain ⟨l1, l2, l3, l4, l5, l6⟩ := l
                exact ⟨(g4 80 25 (by omega)).trans l1, (g4 90 _ (by omega)).trans l2, (g4 91 _ (by omega)).trans l3, (g4 92 _ (by omega)).trans l4, (g4 93 _ (by omega)).trans l5, fun k s a1 a2 a3 => (g4 k s (by omega)).trans (l6 k s a1 a2 a3)⟩
          · rw [if_neg ok, f2 ok]
            simp only [Option.bind_some, Option.toList_some, Option.toList_none, List.cons_append, List.nil_append]
            rw [e370_332, ← hb]
            exact okc_s ⟨rfr_t rfr_14 (rfr_t q1 (rfr_n fρ)), fS_, by omega⟩
        rcases ce with c1 | c0
        · rw [if_pos c1]
          exact s319
        · rw [if_neg (by rw [c0]; decide), if_pos c0]
          exact s319
      · rw [if_neg (fun z => ce (Or.inl z)), if_neg (fun z => ce (Or.inr z)), if_pos (show ¬ (tK (tks t n J) = 1 ∨ tK (tks t n J) = 0) from ce), T359g q2.2.2, RG_10 q2]
        simp only [Option.bind_some, Option.toList_some, Option.toList_none, List.cons_append, List.nil_append]
        exact bad _ _ ⟨rfr_t rfr_14 q1, (mis q2).2, by omega⟩
  have x16 : gI ρ 80 16 = (M : Int) := m16
  rw [M370, e370_0, e370_20, e370_35, RG_10 h, ← hb, ← hρ, x16, T364 gρ]
  simp only [Option.bind_some, Option.toList_some, Option.toList_none, List.cons_append, List.nil_append]
  rw [e370_49]
  unfold pStm at s289
  have r1 := rgR_r (t := t) (X := tks t n k)
  by_cases c0 : rgR t (tks t n k) < 0
  · rw [if_neg (show ¬ 0 ≤ rgR t (tks t n k) by omega)] at s289
    rw [if_pos c0, T360 gρ]
    simp only [Option.bind_some, Option.toList_some, Option.toList_none, List.cons_append, List.nil_append]
    rw [e370_65]
    by_cases c42 : sgn (tks t n) 42 k
    · rw [if_pos c42] at s289
      rw [b2_yes c42, if_neg n10]
      refine okc_b (T383 gρ zρ) fun τ p => ?_
      show okc (RR (lkB tb370) (B370_72, [some (mR (some 80)), some (mI (b : Int)), some (mI (M : Int))], [], τ)) none _
      rw [e370_72]
      exact s289 τ p
    · rw [if_neg c42] at s289
      rw [b2_no c42, if_pos y00, N362 gρ (by decide)]
      simp only [Option.bind_some, Option.toList_some, Option.toList_none, List.cons_append, List.nil_append]
      rw [e370_82]
      by_cases c51 : nmP' t (tks t n k) 51
      · rw [if_pos c51] at s289
        rw [b2_yes c51, if_neg n10]
        refine okc_b (A355 gρ (by rw [nm_k c51]; decide)) fun τ1 p1 => ?_
        show okc (RR (lkB tb370) (B370_89, [some (mR (some 80)), some (mI (b : Int)), some (mI (M : Int))], [], τ1)) none _
        rw [e370_89]
        refine okc_b (T385 (u := u) p1.2 (stO_W zρ p1.1) ((p1.1.1 _ _ (by omega)).trans u25) hu2) fun τ p => ?_
        show okc (RR (lkB tb370) (B370_93, [some (mR (some 80)), some (mI (b : Int)), some (mI (M : Int))], [], τ)) none _
        rw [e370_93]
        refine s289 τ ?_
        cases hq : pIf t (tks t n) (k + 1) with
        | inl e => rw [hq] at p; exact ⟨rfr_t p.1 (rfr_W p1.1), p.2⟩
        | inr q => rw [hq] at p; exact stP_W p (rfn_W p1.1)
      · rw [if_neg c51] at s289
        rw [b2_no c51, if_pos y00, N362 gρ (by decide)]
        simp only [Option.bind_some, Option.toList_some, Option.toList_none, List.cons_append, List.nil_append]
        rw [e370_103]
        by_cases c52 : nmP' t (tks t n k) 52
        · rw [if_pos c52] at s289
          rw [b2_yes c52, if_neg n10]
          refine okc_b (A355 gρ (by rw [nm_k c52]; decide)) fun τ1 p1 => ?_
          show okc (RR (lkB tb370) (B370_110, [some (mR (some 80)), some (mI (b : Int)), some (mI (M : Int))], [], τ1)) none _
          rw [e370_110]
          refine okc_b (L387 (u := u) (x := 0) (op := 5) (most := iL 32767) p1.2 (stO_W zρ p1.1) ((p1.1.1 _ _ (by omega)).trans u25) hu2 (Or.inl rfl) (if_pos y00).symm (by decide)) fun τ p => ?_
          show okc (RR (lkB tb370) (B370_120, [some (mR (some 80)), some (mI (b : Int)), some (mI (M : Int))], [], τ)) none _
          rw [e370_120]
          refine s289 τ ?_
          unfold pGo
          cases hq : pWh t (tks t n) (iL 32767) (k + 1) with
          | inl e => rw [hq] at p; exact ⟨rfr_t p.1 (rfr_W p1.1), p.2⟩
          | inr q =>
            rw [hq] at p
            have p : stP t n τ1 τ (((5, 0, 0, (if (0 : Int) = 0 then lI q.1.2 else 0), (if (0 : Int) = 0 then 0 else lI q.1.2)), (0, 0, 0), q.1.1), q.2) := p
            rw [if_pos y00, if_pos y00] at p
            exact stP_W p (rfn_W p1.1)
        · rw [if_neg c52] at s289
          rw [b2_no c52, if_pos y00, N362 gρ (by decide)]
          simp only [Option.bind_some, Option.toList_some, Option.toList_none, List.cons_append, List.nil_append]
          rw [e370_130]
          by_cases c53 : nmP' t (tks t n k) 53
          · rw [if_pos c53] at s289
            rw [b2_yes c53, if_neg n10]
            refine okc_b (A355 gρ (by rw [nm_k c53]; decide)) fun τ1 p1 => ?_
            show okc (RR (lkB tb370) (B370_137, [some (mR (some 80)), some (mI (b : Int)), some (mI (M : Int))], [], τ1)) none _
            rw [e370_137]
            refine okc_b (L387 (u := u) (x := 1) (op := 6) (most := iL 2147483647) p1.2 (stO_W zρ p1.1) ((p1.1.1 _ _ (by omega)).trans u25) hu2 (Or.inr rfl) (if_neg n10).symm (by decide)) fun τ p => ?_
            show okc (RR (lkB tb370) (B370_148, [some (mR (some 80)), some (mI (b : Int)), some (mI (M : Int))], [], τ)) none _
            rw [e370_148]
            refine s289 τ ?_
            unfold pGol
            cases hq : pWh t (tks t n) (iL 2147483647) (k + 1) with
            | inl e => rw [hq] at p; exact ⟨rfr_t p.1 (rfr_W p1.1), p.2⟩
            | inr q =>
              rw [hq] at p
              have p : stP t n τ1 τ (((6, 0, 0, (if (1 : Int) = 0 then lI q.1.2 else 0), (if (1 : Int) = 0 then 0 else lI q.1.2)), (0, 0, 0), q.1.1), q.2) := p
              rw [if_neg n10, if_neg n10] at p
              exact stP_W p (rfn_W p1.1)
          · rw [if_neg c53] at s289
            rw [b2_no c53, if_pos y00, N362 gρ (by decide)]
            simp only [Option.bind_some, Option.toList_some, Option.toList_none, List.cons_append, List.nil_append]
            rw [e370_158]
            by_cases c54 : nmP' t (tks t n k) 54
            · rw [if_pos c54] at s289
              rw [b2_yes c54, if_neg n10]
              refine okc_b (A355 gρ (by rw [nm_k c54]; decide)) fun τ1 p1 => ?_
              show okc (RR (lkB tb370) (B370_165, [some (mR (some 80)), some (mI (b : Int)), some (mI (M : Int))], [], τ1)) none _
              rw [e370_165]
              refine okc_b (T388 (u := u) p1.2 (stO_W zρ p1.1) ((p1.1.1 _ _ (by omega)).trans u25) hu2) fun τ p => ?_
              show okc (RR (lkB tb370) (B370_169, [some (mR (some 80)), some (mI (b : Int)), some (mI (M : Int))], [], τ)) none _
              rw [e370_169]
              refine s289 τ ?_
              cases hq : pCal t (tks t n) (k + 1) with
              | inl e => rw [hq] at p; exact ⟨rfr_t p.1 (rfr_W p1.1), p.2⟩
              | inr q => rw [hq] at p; exact stP_W p (rfn_W p1.1)
            · rw [if_neg c54] at s289
              rw [b2_no c54, if_pos y00, N362 gρ (by decide)]
              simp only [Option.bind_some, Option.toList_some, Option.toList_none, List.cons_append, List.nil_append]
              rw [e370_179]
              by_cases c17 : nmP' t (tks t n k) 17
              · rw [if_pos c17] at s289
                rw [b2_yes c17, if_neg n10]
                refine okc_b (A355 gρ (by rw [nm_k c17]; decide)) fun τ1 p1 => ?_
                show okc (RR (lkB tb370) (B370_186, [some (mR (some 80)), some (mI (b : Int)), some (mI (M : Int))], [], τ1)) none _
                rw [e370_186]
                obtain ⟨z1, z2, z3, z4, z5, z6, z7⟩ := stO_W zρ p1.1
                refine s289 _ (stP_k (rfn_t (rfn_I ⟨by omega, by omega⟩) (rfn_W p1.1)) (RG_I p1.2 (by omega)) ⟨fS_, ?_, ?_, ?_, ?_⟩ ⟨?_, (fun a => (a.elim (fun a => absurd rfl a) (fun a => absurd rfl a))), ?_⟩ rfl)
                · rw [fO_ (by decide)]; exact z2
                · rw [fO_ (by decide)]; exact z3
                · rw [fO_ (by decide)]; exact z4
                · rw [fO_ (by decide)]; exact z5
                · rw [fO_ (by decide)]; exact z6
                · rw [fO_ (by decide)]; exact z7
              · rw [if_neg c17] at s289
                rw [b2_no c17, if_pos y00, N362 gρ (by decide)]
                simp only [Option.bind_some, Option.toList_some, Option.toList_none, List.cons_append, List.nil_append]
                rw [e370_203]
                by_cases c55 : nmP' t (tks t n k) 55
                · rw [if_pos c55] at s289
                  rw [b2_yes c55, if_neg n10]
                  refine okc_b (A355 gρ (by rw [nm_k c55]; decide)) fun τ1 p1 => ?_
                  show okc (RR (lkB tb370) (B370_210, [some (mR (some 80)), some (mI (b : Int)), some (mI (M : Int))], [], τ1)) none _
                  have g1 := p1.2
                  rw [e370_210]
                  unfold pNum at s289
                  have nlt : ¬ iL (-1) < tV (tks t n (k + 1)) := by
                    rw [BitVec.lt_def]
                    have e1 : (iL (-1)).toNat = 18446744073709551615 := by decide
                    have := (tV (tks t n (k + 1))).isLt
                    omega
                  by_cases c3 : tK (tks t n (k + 1)) = 3 ∧ tkS (tks t n (k + 1)) = 0
                  · rw [if_pos (show tK (tks t n (k + 1)) = 3 ∧ tkS (tks t n (k + 1)) = 0 ∧ ¬ iL (-1) < tV (tks t n (k + 1)) from ⟨c3.1, c3.2, nlt⟩)] at s289
                    rw [T372g g1 c3]
                    simp only [Option.bind_some, Option.toList_some, Option.toList_none, List.cons_append, List.nil_append]
                    rw [e370_214, RG_12 g1 c3.1]
                    obtain ⟨z1, z2, z3, z4, z5, z6, z7⟩ := stO_W zρ p1.1
                    refine okc_b (T373g (RG_I (RG_Lx g1 (by omega)) (by omega)) (by rw [c3.1]; decide)) fun τ2 p2 => ?_
                    show okc (RR (lkB tb370) (B370_231, [some (mR (some 80)), some (mI (b : Int)), some (mI (M : Int))], [], τ2)) none _
                    rw [e370_231]
                    refine s289 _ (stP_k (rfn_t (rfn_W p2.1) (rfn_t (rfn_I ⟨by omega, by omega⟩) (rfn_t rfn_L (rfn_W p1.1)))) p2.2 ⟨?_, ?_, ?_, ?_, ?_⟩ ⟨?_, fun _ => ?_, ?_⟩ rfl)
                    · rw [p2.1.1 _ _ (by omega), fO_ (by decide), gI_sL]; exact z1
                    · rw [p2.1.1 _ _ (by omega), fO_ (by decide), gI_sL]; exact z2
                    · rw [p2.1.1 _ _ (by omega), fO_ (by decide), gI_sL]; exact z3
                    · rw [p2.1.1 _ _ (by omega), fO_ (by decide), gI_sL]; exact z4
                    · rw [p2.1.1 _ _ (by omega), fO_ (by decide), gI_sL]; exact z5
                    · rw [p2.1.1 _ _ (by omega), fS_]
                    · rw [p2.1.2.1 _ _ (by omega), gL_sI, gL_sL, if_pos ⟨rfl, rfl⟩]
                    · rw [p2.1.1 _ _ (by omega), fO_ (by decide), gI_sL]; exact z7
                  · rw [if_neg (show ¬ (tK (tks t n (k + 1)) = 3 ∧ tkS (tks t n (k + 1)) = 0 ∧ ¬ iL (-1) < tV (tks t n (k + 1))) from fun z => c3 ⟨z.1, z.2.1⟩)] at s289
                    have hbb := rqE_0 (mis g1)
                    have hb2 : gI (sI (sL (sI τ1 80 14 (tB (tks t n (k + 1)) : Int)) 80 32 (gL (sI τ1 80 14 (tB (tks t n (k + 1)) : Int)) 80 12)) 80 31 1) 80 14 = (tB (tks t n (k + 1)) : Int) := by rw [fO_ (by decide), gI_sL]; exact (mis g1).2
                    rw [T372e g1 c3]
                    simp only [Option.bind_some, Option.toList_some, Option.toList_none, List.cons_append, List.nil_append]
                    rw [e370_214, T373b (by rw [hb2]; omega)]
                    simp only [Option.bind_some, Option.toList_some, Option.toList_none, List.cons_append, List.nil_append]
                    rw [e370_231]
                    exact s289 _ ⟨rfr_t (rfr_I ⟨by omega, by omega⟩) (rfr_t rfr_L (rfr_t rfr_14 (rfr_W p1.1))), hb2, by omega⟩
                · rw [if_neg c55] at s289
                  -- lock and so on
                  have s274 : ∀ (g : Prop) (dg : Decidable g) (X x1 x2 x3 : Int), tK (tks t n k) = 2 → b2 (nmP' t (tks t n k) 56) = x1 → b2 (nmP' t (tks t n k) 57) = x2 → b2 (nmP' t (tks t n k) 58) = x3 → (g ↔ (¬ x1 = 0 ∨ ¬ x2 = 0)) → (g → X = if x2 = 0 then 0 else 1) → (¬ g → X = if x3 = 0 then 241 else 225) → (∀ τ : MS, oR (pAtm t (tks t n) g dg X k) (eR ρ τ) (stP t n ρ τ) → okc (RR (lkB tb370) (B370_289, [some (mR (some 80)), some (mI (b : Int)), some (mI (M : Int))], [], τ)) none (fun τ => oR (pSt2 t (tks t n) M k) (eR σ τ) (fun q => rfs τ σ ∧ RG τ t n q.2 ∧ gI τ 80 16 = ((M + snW q.1 : Nat) : Int) ∧ gL τ 86 M = srW q.1 ∧ (¬ q.1.2.1.2.2 = 0 → gL τ 86 (M + 1) = q.1.2.1.2.1) ∧ (∀ s, s < M → gL τ 86 s = gL σ 86 s) ∧ lnR t n τ σ q.1.2.2 (wdO q.1.1.1)))) → okc (RR (lkB tb370) (B370_274, [some (mR (some 80)), some (mI (b : Int)), some (mI (M : Int))], [], ρ)) none (fun τ => oR (pSt2 t (tks t n) M k) (eR σ τ) (fun q => rfs τ σ ∧ RG τ t n q.2 ∧ gI τ 80 16 = ((M + snW q.1 : Nat) : Int) ∧ gL τ 86 M = srW q.1 ∧ (¬ q.1.2.1.2.2 = 0 → gL τ 86 (M + 1) = q.1.2.1.2.1) ∧ (∀ s, s < M → gL τ 86 s = gL σ 86 s) ∧ lnR t n τ σ q.1.2.2 (wdO q.1.1.1))) := fun g dg X x1 x2 x3 k2 e1 e2 e3 hg hx hx' k => by
                    rw [e370_274]
                    refine okc_b (T384 (g := g) (dg := dg) (X := X) gρ zρ k2 e1 e2 e3 hg hx hx') fun τ p => ?_
                    show okc (RR (lkB tb370) (B370_278, [some (mR (some 80)), some (mI (b : Int)), some (mI (M : Int))], [], τ)) none _
                    rw [e370_278]
                    exact k τ p
                  rw [b2_no c55, if_pos y00, N362 gρ (by decide)]
                  simp only [Option.bind_some, Option.toList_some, Option.toList_none, List.cons_append, List.nil_append]
                  rw [e370_241]
                  by_cases c56 : nmP' t (tks t n k) 56
                  · rw [if_pos c56] at s289
                    rw [b2_yes c56, if_pos n10]
                    have n57 : ¬ nmP' t (tks t n k) 57 := fun z => by
                      have := (nm_l c56).1
                      have := (nm_l z).1
                      rw [show (strAt 56).length = 4 by decide +kernel] at *
                      rw [show (strAt 57).length = 5 by decide +kernel] at *
                      omega
                    exact s274 True inferInstance 0 1 0 _ (nm_k c56) (b2_yes c56) (b2_no n57) rfl ⟨fun _ => Or.inl n10, fun _ => trivial⟩ (fun _ => (if_pos y00).symm) (fun z => absurd trivial z) s289
                  · rw [if_neg c56] at s289
                    rw [b2_no c56, if_neg (fun z => z y00), N362 gρ (by decide)]
                    simp only [Option.bind_some, Option.toList_some, Option.toList_none, List.cons_append, List.nil_append]
                    rw [e370_251]
                    by_cases c57 : nmP' t (tks t n k) 57
                    · rw [if_pos c57] at s289
                      rw [b2_yes c57, if_pos n10]
                      exact s274 True inferInstance 1 0 1 _ (nm_k c57) (b2_no c56) (b2_yes c57) rfl ⟨fun _ => Or.inr n10, fun _ => trivial⟩ (fun _ => (if_neg n10).symm) (fun z => absurd trivial z) s289
                    · rw [if_neg c57] at s289
                      rw [b2_no c57, if_neg (fun z => z y00), N362 gρ (by decide)]
                      simp only [Option.bind_some, Option.toList_some, Option.toList_none, List.cons_append, List.nil_append]
                      rw [e370_261]
                      by_cases c58 : nmP' t (tks t n k) 58
                      · rw [if_pos c58] at s289
                        rw [b2_yes c58, if_pos n10]
                        exact s274 False inferInstance 225 0 0 1 (nm_k c58) (b2_no c56) (b2_no c57) (b2_yes c58) ⟨fun z => z.elim, fun z => (z.elim (fun a => a y00) (fun a => a y00))⟩ (fun z => z.elim) (fun _ => (if_neg n10).symm) s289
                      · rw [if_neg c58] at s289
                        rw [b2_no c58, if_neg (fun z => z y00), N362 gρ (by decide)]
                        simp only [Option.bind_some, Option.toList_some, Option.toList_none, List.cons_append, List.nil_append]
                        rw [e370_271]
                        by_cases c59 : nmP' t (tks t n k) 59
                        · rw [if_pos c59] at s289
                          rw [b2_yes c59, if_neg n10]
                          exact s274 False inferInstance 241 0 0 0 (nm_k c59) (b2_no c56) (b2_no c57) (b2_no c58) ⟨fun z => z.elim, fun z => (z.elim (fun a => a y00) (fun a => a y00))⟩ (fun z => z.elim) (fun _ => (if_pos y00).symm) s289
                        · rw [if_neg c59] at s289
                          rw [b2_no c59, if_pos y00, T359g gρ.2.2, RG_10 gρ]
                          simp only [Option.bind_some, Option.toList_some, Option.toList_none, List.cons_append, List.nil_append]
                          exact s289 _ (eR_m gρ (rfr_r _))
  · rw [if_pos (show 0 ≤ rgR t (tks t n k) by omega)] at s289
    rw [if_neg c0]
    refine okc_b (T377 gρ zρ (by omega)) fun τ p => ?_
    show okc (RR (lkB tb370) (B370_56, [some (mR (some 80)), some (mI (b : Int)), some (mI (M : Int))], [], τ)) none _
    rw [e370_56]
    exact s289 τ p
end RSW
