/-! ===== the reference's PTR, whole; codes; statements' state ===== -/
/-- reading a statement without a WHERE's name -/
def rfn (τ σ : MS) : Prop := (∀ k s, ¬ (k = 80 ∧ ((8 ≤ s ∧ s ≤ 14) ∨ (26 ≤ s ∧ s ≤ 37))) → gI τ k s = gI σ k s) ∧ (∀ k s, ¬ (k = 80 ∧ (s = 12 ∨ s = 32)) → gL τ k s = gL σ k s) ∧ τ.2.2 = σ.2.2
def wdO (op : Int) : Int := if op = 6 ∨ op = 133 then 1 else 0
/-- behind a statement's words -/
def stP (t : Nat → Int) (n : Nat) (σ τ : MS) (q : SR × Nat) : Prop := rfr τ σ ∧ RG τ t n q.2 ∧ (gI τ 80 26 = q.1.1.1 ∧ gI τ 80 27 = q.1.1.2.1 ∧ gI τ 80 28 = q.1.1.2.2.1 ∧ gI τ 80 29 = q.1.1.2.2.2.1 ∧ gI τ 80 30 = q.1.1.2.2.2.2) ∧ (gI τ 80 31 = q.1.2.1.1 ∧ (¬ q.1.2.1.1 = 0 ∨ ¬ q.1.2.1.2.2 = 0 → gL τ 80 32 = q.1.2.1.2.1) ∧ gI τ 80 33 = q.1.2.1.2.2) ∧ lnR t n τ σ q.1.2.2 (wdO q.1.1.1)
section RPW
variable {t : Nat → Int} {n i j k m : Nat} {σ τ ρ υ : MS} {c d e o w x x1 x2 x3 y s g : Int} {v : B64} {q : B64 × Int} {T : TK}
theorem rfn_r (σ : MS) : rfn σ σ := ⟨fun _ _ _ => rfl, fun _ _ _ => rfl, rfl⟩
theorem rfn_t (h1 : rfn υ τ) (h2 : rfn τ σ) : rfn υ σ := ⟨fun k s q => (h1.1 k s q).trans (h2.1 k s q), fun k s q => (h1.2.1 k s q).trans (h2.2.1 k s q), h1.2.2.trans h2.2.2⟩
theorem rfn_W (h : rqW τ σ) : rfn τ σ := ⟨fun k s q => h.1 k s (by omega), fun k s q => h.2.1 k s (by omega), h.2.2⟩
theorem rfn_S (h : rqS τ σ) : rfn τ σ := ⟨fun k s q => h.1 k s (by omega), fun k s q => h.2.1 k s (by omega), h.2.2⟩
theorem rfn_P (h : rqP τ σ) : rfn τ σ := ⟨fun k s q => h.1 k s (by omega), fun k s q => h.2.1 k s (by omega), h.2.2⟩
theorem rfn_I {s : Nat} (h : 26 ≤ s ∧ s ≤ 37) : rfn (sI σ 80 s x) σ := ⟨fun k' s' q => by rw [gI_sI, if_neg (by omega)], fun _ _ _ => rfl, rfl⟩
theorem rfn_L : rfn (sL σ 80 32 v) σ := ⟨fun _ _ _ => rfl, fun k' s' q => by rw [gL_sL, if_neg (by omega)], rfl⟩
theorem rfr_n (h : rfn τ σ) : rfr τ σ := ⟨fun k s q _ => h.1 k s (by omega), h.2.1, h.2.2⟩
theorem lnR_n {x : Int} (h : rfn τ σ) : lnR t n τ σ none x := ⟨fun k s q1 q2 => h.1 k s (by omega), h.1 80 25 (by omega)⟩
theorem lnR_q {x : Int} {o : Option Nat} (h : lnR t n τ ρ o x) (f : rfn ρ σ) : lnR t n τ σ o x := by
  cases o with
  | none => exact ⟨fun k s q1 q2 => (h.1 k s q1 q2).trans (f.1 k s (by omega)), h.2.trans (f.1 80 25 (by omega))⟩
  | some j =>
    have h25 : gI ρ 80 25 = gI σ 80 25 := f.1 80 25 (by omega)
    obtain ⟨a1, a2, a3, a4, a5, a6⟩ := h
    rw [h25] at a1 a2 a3 a4 a5 a6
    exact ⟨a1, a2.trans (f.1 80 16 (by omega)), a3, a4, a5, fun k s q1 q2 q3 => (a6 k s q1 q2 q3).trans (f.1 k s (by omega))⟩
theorem lnR_p {x : Int} {o : Option Nat} (h : lnR t n τ ρ o x) (f : rfn υ τ) : lnR t n υ ρ o x := by
  cases o with
  | none => exact ⟨fun k s q1 q2 => (f.1 k s (by omega)).trans (h.1 k s q1 q2), (f.1 80 25 (by omega)).trans h.2⟩
  | some j =>
    obtain ⟨a1, a2, a3, a4, a5, a6⟩ := h
    exact ⟨(f.1 80 25 (by omega)).trans a1, (f.1 90 _ (by omega)).trans a2, (f.1 91 _ (by omega)).trans a3, (f.1 92 _ (by omega)).trans a4, (f.1 93 _ (by omega)).trans a5, fun k s q1 q2 q3 => (f.1 k s (by omega)).trans (a6 k s q1 q2 q3)⟩

theorem T378 : MM 378 [mI s] σ = some (some (mI (cdT s)), σ) := by
  rw [M378, e378_0]
  by_cases h0 : s = 9533
  · rw [if_pos h0, h0]
    rfl
  · rw [if_neg h0]
    by_cases h1 : s = 9789
    · rw [if_pos h1, h1]
      rfl
    · rw [if_neg h1]
      by_cases h2 : s = 10813
      · rw [if_pos h2, h2]
        rfl
      · rw [if_neg h2]
        by_cases h3 : s = 11069
        · rw [if_pos h3, h3]
          rfl
        · rw [if_neg h3]
          by_cases h4 : s = 11581
          · rw [if_pos h4, h4]
            rfl
          · rw [if_neg h4]
            by_cases h5 : s = 12093
            · rw [if_pos h5, h5]
              rfl
            · rw [if_neg h5]
              by_cases h6 : s = 24125
              · rw [if_pos h6, h6]
                rfl
              · rw [if_neg h6]
                by_cases h7 : s = 31805
                · rw [if_pos h7, h7]
                  rfl
                · rw [if_neg h7]
                  by_cases h8 : s = 3947581
                  · rw [if_pos h8, h8]
                    rfl
                  · rw [if_neg h8]
                    by_cases h9 : s = 4079165
                    · rw [if_pos h9, h9]
                      rfl
                    · rw [if_neg h9]
                      have : cdT s = -1 := by
                        unfold cdT
                        rw [if_neg h3, if_neg h4, if_neg h2, if_neg h5, if_neg h7, if_neg h1, if_neg h8, if_neg h9, if_neg h0, if_neg h6]
                      rw [this]
theorem T386 (h : gI σ 80 11 = s) : MM 386 [mR (some 80), mI g] σ = some (some (mI (cpT s g)), σ) := by
  rw [M386, e386_0, h]
  by_cases g0 : g = 0
  · have e0 : cpT s g = cpT s 0 := by rw [g0]
    rw [e0]
    by_cases h0 : s = 38
    · rw [if_pos h0, if_pos g0, h0]
      rfl
    · rw [if_neg h0]
      by_cases h1 : s = 60
      · rw [if_pos h1, if_pos g0, h1]
        rfl
      · rw [if_neg h1]
        by_cases h2 : s = 62
        · rw [if_pos h2, if_pos g0, h2]
          rfl
        · rw [if_neg h2]
          by_cases h3 : s = 8509
          · rw [if_pos h3, if_pos g0, h3]
            rfl
          · rw [if_neg h3]
            by_cases h4 : s = 15421
            · rw [if_pos h4, if_pos g0, h4]
              rfl
            · rw [if_neg h4]
              by_cases h5 : s = 15677
              · rw [if_pos h5, if_pos g0, h5]
                rfl
              · rw [if_neg h5]
                by_cases h6 : s = 15933
                · rw [if_pos h6, if_pos g0, h6]
                  rfl
                · rw [if_neg h6]
                  have : cpT s 0 = -1 := by
                    unfold cpT
                    rw [if_pos y00, if_neg h5, if_neg h2, if_neg h6, if_neg h0, if_neg h3, if_neg h1, if_neg h4]
                  rw [this]
  · have e1 : cpT s g = cpT s 1 := by
      unfold cpT
      rw [if_neg g0, if_neg n10]
    rw [e1]
    by_cases h0 : s = 38
    · rw [if_pos h0, if_neg g0, h0]
      rfl
    · rw [if_neg h0]
      by_cases h1 : s = 60
      · rw [if_pos h1, if_neg g0, h1]
        rfl
      · rw [if_neg h1]
        by_cases h2 : s = 62
        · rw [if_pos h2, if_neg g0, h2]
          rfl
        · rw [if_neg h2]
          by_cases h3 : s = 8509
          · rw [if_pos h3, if_neg g0, h3]
            rfl
          · rw [if_neg h3]
            by_cases h4 : s = 15421
            · rw [if_pos h4, if_neg g0, h4]
              rfl
            · rw [if_neg h4]
              by_cases h5 : s = 15677
              · rw [if_pos h5, if_neg g0, h5]
                rfl
              · rw [if_neg h5]
                by_cases h6 : s = 15933
                · rw [if_pos h6, if_neg g0, h6]
                  rfl
                · rw [if_neg h6]
                  have : cpT s 1 = -1 := by
                    unfold cpT
                    rw [if_neg n10, if_neg h2, if_neg h6, if_neg h1, if_neg h4]
                  rw [this]
/-- of names: length, last byte -/
theorem nm_l {L : List Nat} (h : nmB t T L = true) : tE T - tB T = L.length ∧ ∀ i, i < L.length → t (tB T + i) = ((L.getD i 0 : Nat) : Int) := by
  unfold nmB at h
  have h1 := Bool.and_eq_true_iff.mp h
  have h2 := Bool.and_eq_true_iff.mp h1.2
  exact ⟨of_decide_eq_true h2.1, fun i hi => of_decide_eq_true (List.all_eq_true.mp h2.2 i (List.mem_range.mpr hi))⟩
theorem st_72 : strAt 72 = [115, 56] := by decide +kernel
theorem st_73 : strAt 73 = [115, 49, 54] := by decide +kernel
theorem st_74 : strAt 74 = [115, 51, 50] := by decide +kernel
theorem st_75 : strAt 75 = [117, 56] := by decide +kernel
theorem st_76 : strAt 76 = [117, 49, 54] := by decide +kernel
theorem st_77 : strAt 77 = [117, 51, 50] := by decide +kernel
theorem st_78 : strAt 78 = [117, 54, 52] := by decide +kernel
/-- the size of a name of a place -/
def szN (t : Nat → Int) (T : TK) : Int := if tE T - tB T = 2 then 16 else if t (tE T - 1) = 54 then 8 else if t (tE T - 1) = 50 then 0 else 24
theorem szN_of {L : List Nat} {z : Int} (h : nmB t T L = true) (hl : 2 ≤ L.length) (h2 : L.length = 2 → z = 16) (h3 : ¬ L.length = 2 → z = if L.getD (L.length - 1) 0 = 54 then 8 else if L.getD (L.length - 1) 0 = 50 then 0 else 24) : szN t T = z := by
  obtain ⟨a, b⟩ := nm_l h
  unfold szN
  by_cases c : L.length = 2
  · rw [if_pos (by omega), h2 c]
  · have e := b (L.length - 1) (by omega)
    rw [show tB T + (L.length - 1) = tE T - 1 by omega] at e
    rw [if_neg (by omega), e, h3 c]
    by_cases c1 : L.getD (L.length - 1) 0 = 54
    · rw [if_pos c1, if_pos (by omega)]
    · rw [if_neg c1, if_neg (by omega)]
      by_cases c2 : L.getD (L.length - 1) 0 = 50
      · rw [if_pos c2, if_pos (by omega)]
      · rw [if_neg c2, if_neg (by omega)]
/-- PTR -/
theorem T382 (h : RG σ t n k) : okc (MM 382 [mR (some 80), mI x] σ) none (fun τ => oR (pPtr t (tks t n) x k) (eR σ τ) (fun q => rqP τ σ ∧ RG τ t n q.2 ∧ (gI τ 80 36 = iAnd q.1.1 24 ∧ gI τ 80 37 = (if q.1.1 < 128 then 0 else 1)) ∧ gI τ 80 34 = q.1.2.1 ∧ gI τ 80 35 = lI q.1.2.2)) := by
  have n4 := h.1.2.1
  unfold pPtr
  rw [M382, e382_0]
  by_cases c1 : sgn (tks t n) 42 k
  · rw [if_neg (show ¬ ¬ sgn (tks t n) 42 k from fun z => z c1)]
    refine okc_b (T361g h c1) fun τ1 p1 => ?_
    show okc (RR (lkB tb382) (B382_6, [some (mR (some 80)), some (mI x), none, none, none], [], τ1)) none _
    rw [e382_6]
    by_cases c2 : sgn (tks t n) 40 (k + 1)
    · rw [if_neg (show ¬ ¬ sgn (tks t n) 40 (k + 1) from fun z => z c2)]
      refine okc_b (T361g p1.2 c2) fun τ2 p2 => ?_
      show okc (RR (lkB tb382) (B382_12, [some (mR (some 80)), some (mI x), none, none, none], [], τ2)) none _
      have f2 : rqW τ2 σ := rqW_t p2.1 p1.1
      have g2 : RG τ2 t n (k + 2) := p2.2
      clear p2 p1
      have le := tks_le (t := t) (n := n) (k + 2)
      -- behind the question whether it is with sign
      have s59 : ∀ (sg z : Int), (sg = 0 ∨ sg = 1) → pSz t (tks t n (k + 2)) x = z → (sg = 1 → 128 ≤ z ∧ iAnd z 24 = szN t (tks t n (k + 2)) ∧ tK (tks t n (k + 2)) = 2) → (sg = 0 → z = (if nmP' t (tks t n (k + 2)) 75 then 112 else if nmP' t (tks t n (k + 2)) 76 then 104 else if nmP' t (tks t n (k + 2)) 77 then 96 else if nmP' t (tks t n (k + 2)) 78 then 120 else -1)) → okc (RR (lkB tb382) (B382_59, [some (mR (some 80)), some (mI x), none, none, none], [mI sg, mR (some 80)], τ2)) none (fun τ => oR (if pSz t (tks t n (k + 2)) x < 0 then .inl (tB (tks t n (k + 2)) : Int) else pPt2 t (tks t n) (pSz t (tks t n (k + 2)) x) (k + 3)) (eR σ τ) (fun q => rqP τ σ ∧ RG τ t n q.2 ∧ (gI τ 80 36 = iAnd q.1.1 24 ∧ gI τ 80 37 = (if q.1.1 < 128 then 0 else 1)) ∧ gI τ 80 34 = q.1.2.1 ∧ gI τ 80 35 = lI q.1.2.2)) := fun sg z hsg hz hs1 hs0 => by
        rw [hz]
        obtain ⟨ρ, hρ⟩ : ∃ ρ, ρ = sI τ2 80 37 sg := ⟨_, rfl⟩
        have gr : RG ρ t n (k + 2) := by rw [hρ]; exact RG_I g2 (by omega)
        have fr : rqP ρ σ := by rw [hρ]; exact rqP_t (rqP_I ⟨by omega, by omega⟩) (rqP_W f2)
        have r37 : gI ρ 80 37 = sg := by rw [hρ, gI_sI, if_pos ⟨rfl, rfl⟩]
        have bl' : bl sg := hsg
        rw [e382_59, if_pos ⟨ao80r, bl'⟩, ← hρ, T358g gr.2.2]
        simp only [Option.bind_some, Option.toList_some, Option.toList_none, List.cons_append, List.nil_append]
        rw [e382_66, if_neg n10, r37]
        -- it is such a name
        have good : 0 ≤ z → iAnd z 24 = szN t (tks t n (k + 2)) → (if z < 128 then 0 else 1) = sg → tK (tks t n (k + 2)) = 2 → okc (RR (lkB tb382) (B382_116, [some (mR (some 80)), some (mI x), none, none, none], [], ρ)) none (fun τ => oR (if z < 0 then .inl (tB (tks t n (k + 2)) : Int) else pPt2 t (tks t n) z (k + 3)) (eR σ τ) (fun q => rqP τ σ ∧ RG τ t n q.2 ∧ (gI τ 80 36 = iAnd q.1.1 24 ∧ gI τ 80 37 = (if q.1.1 < 128 then 0 else 1)) ∧ gI τ 80 34 = q.1.2.1 ∧ gI τ 80 35 = lI q.1.2.2)) := fun z0 zs zg k2 => by
          have lt := tks_lt (t := t) (n := n) (k := k + 2) (by rw [k2]; decide)
          have l8 := RG_8 gr (by rw [k2]; decide)
          have l10 := RG_10 gr
          have gT : ∀ j, gI ρ 81 j = t j := gr.1.2.2.1
          have w1 : w32 ((tE (tks t n (k + 2)) : Int) - 1) = ((tE (tks t n (k + 2)) - 1 : Nat) : Int) := w32_sub (a := 1) (by omega) (by omega)
          have u81 : Option.isSome (some 81) = true ∧ ab ρ 1 81 ((tE (tks t n (k + 2)) - 1 : Nat) : Int) := g81' (by omega)
          have s207 : ∀ y : Int, y = iAnd z 24 → ∀ x3 x4 : Int, okc (RR (lkB tb382) (B382_207, [some (mR (some 80)), some (mI x), some (mI 1), some (mI x3), some (mI x4)], [mI y, mR (some 80)], ρ)) none (fun τ => oR (pPt2 t (tks t n) z (k + 3)) (eR σ τ) (fun q => rqP τ σ ∧ RG τ t n q.2 ∧ (gI τ 80 36 = iAnd q.1.1 24 ∧ gI τ 80 37 = (if q.1.1 < 128 then 0 else 1)) ∧ gI τ 80 34 = q.1.2.1 ∧ gI τ 80 35 = lI q.1.2.2)) := fun y hy x3 x4 => by
            rw [e382_207]
            refine okc_q (by repeat (first | exact lq_nil | refine lq_cons (Or.inr rfl) ?_ | refine lq_cons (Or.inl rfl) ?_)) (okc_m (L210 (x1 := x) (x2 := 1) (z := z) (RG_I (x := y) gr (show 15 ≤ 36 by omega)) (by rw [k2]; decide)) fun τ p => ?_)
            have p : oR (pPt2 t (tks t n) z (k + 3)) (eR (sI ρ 80 36 y) τ) (fun q => rqP τ (sI ρ 80 36 y) ∧ RG τ t n q.2 ∧ q.1.1 = z ∧ gI τ 80 36 = gI (sI ρ 80 36 y) 80 36 ∧ gI τ 80 37 = gI (sI ρ 80 36 y) 80 37 ∧ gI τ 80 34 = q.1.2.1 ∧ gI τ 80 35 = lI q.1.2.2) := p
            cases hp : pPt2 t (tks t n) z (k + 3) with
            | inl e =>
              rw [hp] at p
              exact ⟨rfr_t p.1 (rfr_t (rfr_I ⟨by omega, by omega⟩) (rfr_P fr)), p.2⟩
            | inr q =>
              rw [hp] at p
              obtain ⟨q1, q2, q3, q4, q5, q6, q7⟩ := p
              refine ⟨rqP_t q1 (rqP_t (rqP_I ⟨by omega, by omega⟩) fr), q2, ⟨?_, ?_⟩, q6, q7⟩
              · rw [q4, gI_sI, if_pos ⟨rfl, rfl⟩, hy, q3]
              · rw [q5, gI_sI, if_neg (by omega), r37, q3, zg]
          rw [e382_116, e382_121, T358g gr.2.2]
          simp only [Option.bind_some, Option.toList_some, Option.toList_none, List.cons_append, List.nil_append]
          rw [e382_126, if_neg n10, if_pos n10, e382_141, T358g gr.2.2]
          simp only [Option.bind_some, Option.toList_some, Option.toList_none, List.cons_append, List.nil_append]
          rw [if_neg (show ¬ z < 0 by omega), e382_145, if_neg n10, l8, l10, w1, w32_sub le.1 (by omega), if_pos u81, Int.toNat_natCast, gT]
          unfold szN at zs
          by_cases a1 : tE (tks t n (k + 2)) - tB (tks t n (k + 2)) = 2
          · rw [if_pos a1] at zs
            rw [if_neg (show ¬ ¬ ((tE (tks t n (k + 2)) - tB (tks t n (k + 2)) : Nat) : Int) = 2 by omega)]
            exact s207 16 zs.symm _ _
          · rw [if_neg a1] at zs
            rw [if_pos (show ¬ ((tE (tks t n (k + 2)) - tB (tks t n (k + 2)) : Nat) : Int) = 2 by omega)]
            by_cases a2 : t (tE (tks t n (k + 2)) - 1) = 54
            · rw [if_pos a2] at zs
              rw [if_neg (fun z => z a2)]
              exact s207 8 zs.symm _ _
            · rw [if_neg a2] at zs
              rw [if_pos a2]
              by_cases a3 : t (tE (tks t n (k + 2)) - 1) = 50
              · rw [if_pos a3] at zs
                rw [if_neg (fun z => z a3)]
                exact s207 0 zs.symm _ _
              · rw [if_neg a3] at zs
                rw [if_pos a3]
                exact s207 24 zs.symm _ _
        rcases hsg with s0 | s1
        · have z4 := hs0 s0
          rw [if_neg (show ¬ ¬ sg = 0 from fun z => z s0), N362 gr (by decide)]
          simp only [Option.bind_some, Option.toList_some, Option.toList_none, List.cons_append, List.nil_append]
          rw [e382_83]
          by_cases b5 : nmP' t (tks t n (k + 2)) 75
          · rw [if_pos b5] at z4
            rw [b2_yes b5, if_pos n10]
            exact good (by omega) (by rw [z4, szN_of (z := 16) b5 (by rw [st_75]; decide) (fun _ => rfl) (fun z => absurd (by rw [st_75]; rfl) z)]; decide) (by rw [z4, s0]; decide) (nm_k b5)
          · rw [if_neg b5] at z4
            rw [b2_no b5, if_neg (fun z => z y00), N362 gr (by decide)]
            simp only [Option.bind_some, Option.toList_some, Option.toList_none, List.cons_append, List.nil_append]
            rw [e382_93]
            by_cases b6 : nmP' t (tks t n (k + 2)) 76
            · rw [if_pos b6] at z4
              rw [b2_yes b6, if_pos n10]
              exact good (by omega) (by rw [z4, szN_of (z := 8) b6 (by rw [st_76]; decide) (fun z => absurd z (by rw [st_76]; decide)) (fun _ => by rw [st_76]; rfl)]; decide) (by rw [z4, s0]; decide) (nm_k b6)
            · rw [if_neg b6] at z4
              rw [b2_no b6, if_neg (fun z => z y00), N362 gr (by decide)]
              simp only [Option.bind_some, Option.toList_some, Option.toList_none, List.cons_append, List.nil_append]
              rw [e382_103]
              by_cases b7 : nmP' t (tks t n (k + 2)) 77
              · rw [if_pos b7] at z4
                rw [b2_yes b7, if_pos n10]
                exact good (by omega) (by rw [z4, szN_of (z := 0) b7 (by rw [st_77]; decide) (fun z => absurd z (by rw [st_77]; decide)) (fun _ => by rw [st_77]; rfl)]; decide) (by rw [z4, s0]; decide) (nm_k b7)
              · rw [if_neg b7] at z4
                rw [b2_no b7, if_neg (fun z => z y00), N362 gr (by decide)]
                simp only [Option.bind_some, Option.toList_some, Option.toList_none, List.cons_append, List.nil_append]
                rw [e382_113]
                by_cases b8 : nmP' t (tks t n (k + 2)) 78
                · rw [if_pos b8] at z4
                  rw [b2_yes b8, if_neg n10]
                  exact good (by omega) (by rw [z4, szN_of (z := 24) b8 (by rw [st_78]; decide) (fun z => absurd z (by rw [st_78]; decide)) (fun _ => by rw [st_78]; rfl)]; decide) (by rw [z4, s0]; decide) (nm_k b8)
                · rw [if_neg b8] at z4
                  rw [b2_no b8, if_pos y00, e382_120, e382_121, T358g gr.2.2]
                  simp only [Option.bind_some, Option.toList_some, Option.toList_none, List.cons_append, List.nil_append]
                  rw [e382_126, if_neg n10, if_neg (fun z => z y00), T359g gr.2.2, RG_10 gr]
                  simp only [Option.bind_some, Option.toList_some, Option.toList_none, List.cons_append, List.nil_append]
                  rw [if_pos (show z < 0 by omega)]
                  exact wr_e (rfr_t rfr_14 (rfr_P fr)) (mis gr).2 (by omega) (P141b (rqE_0 (mis gr)))
        · obtain ⟨z1, z2, z3⟩ := hs1 s1
          rw [if_pos (show ¬ sg = 0 by omega)]
          exact good (by omega) z2 (by rw [s1, if_neg (by omega)]) z3
      rw [e382_12, T358g g2.2.2]
      simp only [Option.bind_some, Option.toList_some, Option.toList_none, List.cons_append, List.nil_append]
      rw [e382_17, if_neg n10]
      have tl : ∀ P7 P8 P9 : Prop, ∀ (d7 : Decidable P7) (d8 : Decidable P8) (d9 : Decidable P9), ¬ P7 → ¬ P8 → ¬ P9 → (if P7 then (144 : Int) else if P8 then 136 else if P9 then 128 else if nmP' t (tks t n (k + 2)) 75 then 112 else if nmP' t (tks t n (k + 2)) 76 then 104 else if nmP' t (tks t n (k + 2)) 77 then 96 else if nmP' t (tks t n (k + 2)) 78 then 120 else -1) = (if nmP' t (tks t n (k + 2)) 75 then 112 else if nmP' t (tks t n (k + 2)) 76 then 104 else if nmP' t (tks t n (k + 2)) 77 then 96 else if nmP' t (tks t n (k + 2)) 78 then 120 else -1) := fun P7 P8 P9 d7 d8 d9 h7 h8 h9 => by
        rw [if_neg h7, if_neg h8, if_neg h9]
      by_cases x0 : x = 0
      · rw [if_pos x0, e382_58]
        refine s59 0 _ (Or.inl rfl) rfl (fun z => by cases z) (fun _ => ?_)
        unfold pSz
        exact tl _ _ _ _ _ _ (fun z => z.1 x0) (fun z => z.1 x0) (fun z => z.1 x0)
      · rw [if_neg x0, N362 g2 (by decide)]
        simp only [Option.bind_some, Option.toList_some, Option.toList_none, List.cons_append, List.nil_append]
        rw [e382_31]
        by_cases b2' : nmP' t (tks t n (k + 2)) 72
        · rw [b2_yes b2', if_pos n10, e382_54]
          refine s59 1 144 (Or.inr rfl) ?_ (fun _ => ⟨by decide, ?_, nm_k b2'⟩) (fun z => by cases z)
          · unfold pSz
            rw [if_pos ⟨x0, b2'⟩]
          · rw [szN_of (z := 16) b2' (by rw [st_72]; decide) (fun _ => rfl) (fun z => absurd (by rw [st_72]; rfl) z)]; decide
        · rw [b2_no b2', if_neg (fun z => z y00), N362 g2 (by decide)]
          simp only [Option.bind_some, Option.toList_some, Option.toList_none, List.cons_append, List.nil_append]
          rw [e382_41]
          by_cases b3 : nmP' t (tks t n (k + 2)) 73
          · rw [b2_yes b3, if_pos n10, e382_54]
            refine s59 1 136 (Or.inr rfl) ?_ (fun _ => ⟨by decide, ?_, nm_k b3⟩) (fun z => by cases z)
            · unfold pSz
              rw [if_neg (fun z => b2' z.2), if_pos ⟨x0, b3⟩]
            · rw [szN_of (z := 8) b3 (by rw [st_73]; decide) (fun z => absurd z (by rw [st_73]; decide)) (fun _ => by rw [st_73]; rfl)]; decide
          · rw [b2_no b3, if_neg (fun z => z y00), N362 g2 (by decide)]
            simp only [Option.bind_some, Option.toList_some, Option.toList_none, List.cons_append, List.nil_append]
            rw [e382_51]
            by_cases b4 : nmP' t (tks t n (k + 2)) 74
            · rw [b2_yes b4, if_neg n10, e382_54]
              refine s59 1 128 (Or.inr rfl) ?_ (fun _ => ⟨by decide, ?_, nm_k b4⟩) (fun z => by cases z)
              · unfold pSz
                rw [if_neg (fun z => b2' z.2), if_neg (fun z => b3 z.2), if_pos ⟨x0, b4⟩]
              · rw [szN_of (z := 0) b4 (by rw [st_74]; decide) (fun z => absurd z (by rw [st_74]; decide)) (fun _ => by rw [st_74]; rfl)]; decide
            · rw [b2_no b4, if_pos y00, e382_58]
              refine s59 0 _ (Or.inl rfl) rfl (fun z => by cases z) (fun _ => ?_)
              unfold pSz
              exact tl _ _ _ _ _ _ (fun z => b2' z.2) (fun z => b3 z.2) (fun z => b4 z.2)
    · rw [if_pos (show ¬ sgn (tks t n) 40 (k + 1) from c2), T361e p1.2 c2]
      simp only [Option.bind_some, Option.toList_some, Option.toList_none, List.cons_append, List.nil_append]
      exact wr_e (rfr_t rfr_14 (rfr_W p1.1)) (mis p1.2).2 (by omega) (P12b (rqE_0 (mis p1.2)))
  · rw [if_pos (show ¬ sgn (tks t n) 42 k from c1), T361e h c1]
    simp only [Option.bind_some, Option.toList_some, Option.toList_none, List.cons_append, List.nil_append]
    exact wr_e rfr_14 (mis h).2 (by omega) (P6b (rqE_0 (mis h)))
end RPW
