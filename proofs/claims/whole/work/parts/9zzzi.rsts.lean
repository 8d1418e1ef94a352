/-! ===== the reference: statements ===== -/
/-- a statement's fields at first -/
def stO_ (σ : MS) : Prop := gI σ 80 26 = 0 ∧ gI σ 80 27 = 0 ∧ gI σ 80 28 = 0 ∧ gI σ 80 29 = 0 ∧ gI σ 80 30 = 0 ∧ gI σ 80 31 = 0 ∧ gI σ 80 33 = 0
section RST
variable {t : Nat → Int} {n i j k m u : Nat} {σ τ ρ υ : MS} {c d e o w x x1 x2 x3 x4 y s g r B : Int} {v : B64} {q : B64 × Int} {T : TK}
theorem stO_q (h : stO_ σ) (f : ∀ s, 26 ≤ s → s ≤ 33 → gI τ 80 s = gI σ 80 s) : stO_ τ := ⟨(f _ (by omega) (by omega)).trans h.1, (f _ (by omega) (by omega)).trans h.2.1, (f _ (by omega) (by omega)).trans h.2.2.1, (f _ (by omega) (by omega)).trans h.2.2.2.1, (f _ (by omega) (by omega)).trans h.2.2.2.2.1, (f _ (by omega) (by omega)).trans h.2.2.2.2.2.1, (f _ (by omega) (by omega)).trans h.2.2.2.2.2.2⟩
theorem stO_W (h : stO_ σ) (f : rqW τ σ) : stO_ τ := stO_q h fun s a b => f.1 _ _ (by omega)
theorem stP_W {q : SR × Nat} (h : stP t n ρ τ q) (f : rfn ρ σ) : stP t n σ τ q := ⟨rfr_t h.1 (rfr_n f), h.2.1, h.2.2.1, h.2.2.2.1, lnR_q h.2.2.2.2 f⟩
theorem opT_c : opT T = -1 ∨ opT T = 0 ∨ opT T = 16 ∨ opT T = 32 ∨ opT T = 48 ∨ opT T = 64 ∨ opT T = 80 ∨ opT T = 96 ∨ opT T = 112 ∨ opT T = 144 ∨ opT T = 160 := by
  unfold opT
  split
  · unfold cdT
    repeat' split
    all_goals omega
  · omega
theorem opT_4 (h : ¬ opT T < 0) : tK T = 4 := by
  refine Classical.byContradiction fun c => h ?_
  unfold opT
  rw [if_neg c]
  decide
theorem iOr_cb : ∀ c ∈ [(0 : Int), 16, 32, 48, 64, 80, 96, 112, 144, 160, 192], ∀ b ∈ [(4 : Int), 7], 0 ≤ iOr c b ∧ iOr c b < 256 := by decide
theorem sS_1 {T : Nat → TK} (h : nmP' t (T k) 60) : sS t T k = 1 ∧ skN t T k = k + 1 := ⟨if_pos h, if_pos h⟩
theorem sS_0 {T : Nat → TK} (h : ¬ nmP' t (T k) 60) : sS t T k = 0 ∧ skN t T k = k := ⟨if_neg h, if_neg h⟩
/-- a statement that begins with a register -/
theorem T377 (h : RG σ t n k) (z : stO_ σ) (hr : 0 ≤ rgR t (tks t n k)) : okc (MM 377 [mR (some 80)] σ) none (fun τ => oR (pTo t (tks t n) k) (eR σ τ) (stP t n σ τ)) := by
  have k2 : tK (tks t n k) = 2 := rgR_n (t := t) (by omega)
  obtain ⟨r, er⟩ : ∃ r, r = rgR t (tks t n k) := ⟨_, rfl⟩
  obtain ⟨w, hw⟩ : ∃ w, w = wOf r := ⟨_, rfl⟩
  obtain ⟨B, hB⟩ : ∃ B, B = bOf r := ⟨_, rfl⟩
  have wb : w = 0 ∨ w = 1 := by rw [hw]; exact wOf_b
  have g0 : RG (sI σ 80 27 (iAnd r 15)) t n k := RG_I h (by omega)
  have s35 : MM 377 [mR (some 80)] σ = RR (lkB tb377) (B377_35, [some (mR (some 80)), some (mI r), some (mI w), none, none, none, none], [mI B], sI σ 80 27 (iAnd r 15)) := by
    rw [M377, e377_0, T364 h, ← er]
    simp only [Option.bind_some, Option.toList_some, Option.toList_none, List.cons_append, List.nil_append]
    rw [e377_4]
    by_cases c16 : r < 16
    · have w0 : w = 0 := by rw [hw]; exact if_pos c16
      have b0 : B = 7 := by rw [hB]; exact if_pos c16
      rw [if_pos c16, e377_16, if_pos y00, w0, b0]
    · have w0 : w = 1 := by rw [hw]; exact if_neg c16
      have b0 : B = 4 := by rw [hB]; exact if_neg c16
      rw [if_neg c16, e377_16, if_neg n10, w0, b0]
  unfold pTo
  rw [s35, e377_35, ← er]
  refine okc_b (A355 g0 (by rw [k2]; decide)) fun τ1 p1 => ?_
  show okc (RR (lkB tb377) (B377_40, [some (mR (some 80)), some (mI r), some (mI w), some (mI B), none, none, none], [], τ1)) none _
  have g1 := p1.2
  have f1 : rfn τ1 σ := rfn_t (rfn_W p1.1) (rfn_I ⟨by omega, by omega⟩)
  have z1 : stZ τ1 (iAnd r 15) := by
    obtain ⟨a1, a2, a3, a4, a5, a6, a7⟩ := z
    refine ⟨?_, ?_, ?_, ?_, ?_, ?_⟩
    · rw [p1.1.1 _ _ (by omega), fS_]
    · rw [p1.1.1 _ _ (by omega), fO_ (by decide)]; exact a3
    · rw [p1.1.1 _ _ (by omega), fO_ (by decide)]; exact a4
    · rw [p1.1.1 _ _ (by omega), fO_ (by decide)]; exact a5
    · rw [p1.1.1 _ _ (by omega), fO_ (by decide)]; exact a6
    · rw [p1.1.1 _ _ (by omega), fO_ (by decide)]; exact a7
  rw [e377_40, T360 g1]
  simp only [Option.bind_some, Option.toList_some, Option.toList_none, List.cons_append, List.nil_append]
  rw [e377_46]
  by_cases c61 : sgn (tks t n) 61 (k + 1)
  · rw [b2_yes c61, if_neg n10, if_pos c61]
    refine okc_b (A355 g1 (by rw [c61.1]; decide)) fun τ2 p2 => ?_
    show okc (RR (lkB tb377) (B377_53, [some (mR (some 80)), some (mI r), some (mI w), some (mI B), none, none, none], [], τ2)) none _
    rw [e377_53]
    refine okc_b (T379 p2.2 (stZ_q z1 p2.1) (by omega) hw hB) fun τ3 p3 => ?_
    show okc (RR (lkB tb377) (B377_60, [some (mR (some 80)), some (mI r), some (mI w), some (mI B), none, none, none], [], τ3)) none _
    rw [e377_60]
    refine okc_s ?_
    have f2 : rfn τ2 σ := rfn_t (rfn_W p2.1) f1
    have p3 : oR (pVal t (tks t n) r (k + 2)) (eR τ2 τ3) (stP t n τ2 τ3) := p3
    cases hp : pVal t (tks t n) r (k + 2) with
    | inl e =>
      rw [hp] at p3
      exact ⟨rfr_t p3.1 (rfr_n f2), p3.2⟩
    | inr q =>
      rw [hp] at p3
      exact stP_W p3 f2
  · rw [b2_no c61, if_pos y00, if_neg c61, N362 g1 (by decide)]
    simp only [Option.bind_some, Option.toList_some, Option.toList_none, List.cons_append, List.nil_append]
    rw [e377_68]
    -- at the sign, at token J
    have s79 : ∀ (J : Nat) (X4 : Int) (τ2 : MS), J = skN t (tks t n) (k + 1) → X4 = sS t (tks t n) (k + 1) → (X4 = 0 ∨ X4 = 1) → RG τ2 t n J → rfn τ2 σ → stZ τ2 (iAnd r 15) → okc (RR (lkB tb377) (B377_79, [some (mR (some 80)), some (mI r), some (mI w), some (mI B), some (mI X4), none, none], [], τ2)) none (fun τ => oR (if opT (tks t n (skN t (tks t n) (k + 1))) < 0 ∨ (¬ sS t (tks t n) (k + 1) = 0 ∧ ¬ (opT (tks t n (skN t (tks t n) (k + 1))) = 48 ∨ opT (tks t n (skN t (tks t n) (k + 1))) = 144 ∨ opT (tks t n (skN t (tks t n) (k + 1))) = 112)) then .inl (tB (tks t n (skN t (tks t n) (k + 1))) : Int)
        else bS (pSid t (tks t n) (wOf r) (skN t (tks t n) (k + 1) + 1)) fun q => .inr (((iOr (iOr (if ¬ sS t (tks t n) (k + 1) = 0 ∧ opT (tks t n (skN t (tks t n) (k + 1))) = 112 then 192 else opT (tks t n (skN t (tks t n) (k + 1)))) (bOf r)) q.1.1, iAnd r 15, q.1.2.1, (if ¬ sS t (tks t n) (k + 1) = 0 ∧ ¬ opT (tks t n (skN t (tks t n) (k + 1))) = 112 then 1 else 0), lI q.1.2.2), (0, 0, 0), none), q.2)) (eR σ τ) (stP t n σ τ)) := fun J X4 τ2 hJ hX hX1 g2 f2 z2 => by
      rw [← hJ, ← hX]
      obtain ⟨C, hC⟩ : ∃ C, C = opT (tks t n J) := ⟨_, rfl⟩
      rw [← hC]
      have cc := opT_c (T := tks t n J)
      rw [← hC] at cc
      have s98 : RR (lkB tb377) (B377_79, [some (mR (some 80)), some (mI r), some (mI w), some (mI B), some (mI X4), none, none], [], τ2) = RR (lkB tb377) (B377_98, [some (mR (some 80)), some (mI r), some (mI w), some (mI B), some (mI X4), none, none], [mI C], τ2) := by
        rw [e377_79, RG_9 g2]
        unfold opT at hC
        by_cases c4 : tK (tks t n J) = 4
        · rw [if_pos c4] at hC
          rw [if_neg (show ¬ ¬ tK (tks t n J) = 4 from fun z => z c4), RG_11 g2 c4, T378]
          simp only [Option.bind_some, Option.toList_some, Option.toList_none, List.cons_append, List.nil_append]
          rw [e377_94, hC]
        · rw [if_neg c4] at hC
          rw [if_pos c4, hC]
      have bad : okc (RR (lkB tb377) (B377_136, [some (mR (some 80)), some (mI r), some (mI w), some (mI B), some (mI X4), some (mI C), none], [], τ2)) none (fun τ => eR σ τ (tB (tks t n J) : Int)) := by
        rw [e377_136, e377_137, if_neg (fun z => z y00), T359g g2.2.2, RG_10 g2]
        simp only [Option.bind_some, Option.toList_some, Option.toList_none, List.cons_append, List.nil_append]
        rw [e377_152]
        exact okc_s (eR_m g2 (rfr_n f2))
      -- well
      have well : ¬ C < 0 → (X4 = 0 ∨ (C = 48 ∨ C = 144 ∨ C = 112)) → okc (RR (lkB tb377) (B377_132, [some (mR (some 80)), some (mI r), some (mI w), some (mI B), some (mI X4), some (mI C), none], [], τ2)) none (fun τ => oR (bS (pSid t (tks t n) (wOf r) (J + 1)) fun q => .inr (((iOr (iOr (if ¬ X4 = 0 ∧ C = 112 then 192 else C) (bOf r)) q.1.1, iAnd r 15, q.1.2.1, (if ¬ X4 = 0 ∧ ¬ C = 112 then 1 else 0), lI q.1.2.2), (0, 0, 0), none), q.2)) (eR σ τ) (stP t n σ τ)) := fun c0 cs => by
        have k4 : tK (tks t n J) = 4 := opT_4 (by rw [← hC]; exact c0)
        obtain ⟨D, hD⟩ : ∃ D, D = if ¬ X4 = 0 ∧ C = 112 then 192 else C := ⟨_, rfl⟩
        obtain ⟨O, hO⟩ : ∃ O : Int, O = if ¬ X4 = 0 ∧ ¬ C = 112 then 1 else 0 := ⟨_, rfl⟩
        have rng : 0 ≤ iOr D B ∧ iOr D B < 256 := by
          refine iOr_cb D ?_ B ?_
          · have : D = C ∨ D = 192 := by
              rw [hD]
              split
              · exact Or.inr rfl
              · exact Or.inl rfl
            rcases this with q | q
            · rw [q]
              rcases cc with z | z | z | z | z | z | z | z | z | z | z
              · omega
              all_goals (rw [z]; decide)
            · rw [q]; decide
          · rw [hB]
            show (if r < 16 then (7 : Int) else 4) ∈ _
            split <;> decide
        have s197 : okc (RR (lkB tb377) (B377_197, [some (mR (some 80)), some (mI r), some (mI w), some (mI B), some (mI X4), some (mI C), some (mI 1)], [mI O, mR (some 80)], sI τ2 80 26 (iOr D B))) none (fun τ => oR (bS (pSid t (tks t n) (wOf r) (J + 1)) fun q => .inr (((iOr (iOr D (bOf r)) q.1.1, iAnd r 15, q.1.2.1, O, lI q.1.2.2), (0, 0, 0), none), q.2)) (eR σ τ) (stP t n σ τ)) := by
          rw [e377_197]
          refine okc_b (A355 (RG_I (RG_I g2 (by omega)) (by omega)) (by rw [k4]; decide)) fun τ3 p3 => ?_
          show okc (RR (lkB tb377) (B377_204, [some (mR (some 80)), some (mI r), some (mI w), some (mI B), some (mI X4), some (mI C), some (mI 1)], [], τ3)) none _
          have f3 : rfn τ3 σ := rfn_t (rfn_W p3.1) (rfn_t (rfn_I ⟨by omega, by omega⟩) (rfn_t (rfn_I ⟨by omega, by omega⟩) f2))
          have v26 : gI τ3 80 26 = iOr D B := by rw [p3.1.1 _ _ (by omega), fO_ (by decide), fS_]
          have v28 : gI τ3 80 28 = 0 := by rw [p3.1.1 _ _ (by omega), fO_ (by decide), fO_ (by decide)]; exact z2.2.1
          have v30 : gI τ3 80 30 = 0 := by rw [p3.1.1 _ _ (by omega), fO_ (by decide), fO_ (by decide)]; exact z2.2.2.2.1
          rw [e377_204]
          refine okc_b (T376 p3.2 wb (by rw [v26]; exact rng) v28 v30) fun τ4 p4 => ?_
          show okc (RR (lkB tb377) (B377_209, [some (mR (some 80)), some (mI r), some (mI w), some (mI B), some (mI X4), some (mI C), some (mI 1)], [], τ4)) none _
          rw [e377_209]
          refine okc_s ?_
          rw [hw] at p4
          cases hp : pSid t (tks t n) (wOf r) (J + 1) with
          | inl e =>
            rw [hp] at p4
            exact ⟨rfr_t p4.1 (rfr_n f3), p4.2⟩
          | inr q =>
            rw [hp] at p4
            obtain ⟨b1, b2, b3, b4, b5⟩ := p4
            refine stP_k (rfn_t (rfn_S b1) f3) b2 ⟨b3.trans (by rw [v26, hB]), ?_, b4, ?_, b5⟩ ⟨?_, (fun a => (a.elim (fun a => absurd rfl a) (fun a => absurd rfl a))), ?_⟩ rfl
            · rw [b1.1 _ _ (by omega), p3.1.1 _ _ (by omega), fO_ (by decide), fO_ (by decide)]; exact z2.1
            · rw [b1.1 _ _ (by omega), p3.1.1 _ _ (by omega), fS_]
            · rw [b1.1 _ _ (by omega), p3.1.1 _ _ (by omega), fO_ (by decide), fO_ (by decide)]; exact z2.2.2.2.2.1
            · rw [b1.1 _ _ (by omega), p3.1.1 _ _ (by omega), fO_ (by decide), fO_ (by decide)]; exact z2.2.2.2.2.2
        rw [← hD, ← hO, e377_132, e377_137, if_pos n10]
        by_cases x0 : X4 = 0
        · have d1 : D = C := by rw [hD]; exact if_neg (fun z => z.1 x0)
          have o1 : O = 0 := by rw [hO]; exact if_neg (fun z => z.1 x0)
          rw [d1, o1] at s197 ⊢
          rw [if_pos x0, e377_172, e377_174, if_pos x0, e377_196]
          exact s197
        · by_cases c1 : C = 112
          · have d1 : D = 192 := by rw [hD]; exact if_pos ⟨x0, c1⟩
            have o1 : O = 0 := by rw [hO]; exact if_neg (fun z => z.2 c1)
            rw [d1, o1] at s197 ⊢
            rw [if_neg x0, if_neg (fun z => z c1), e377_174, if_neg x0, if_pos c1, e377_196]
            exact s197
          · have d1 : D = C := by rw [hD]; exact if_neg (fun z => c1 z.2)
            have o1 : O = 1 := by rw [hO]; exact if_pos ⟨x0, c1⟩
            rw [d1, o1] at s197 ⊢
            rw [if_neg x0, if_pos c1, e377_172, e377_174, if_neg x0, if_neg c1]
            exact s197
      rw [s98, e377_98]
      by_cases c0 : C < 0
      · rw [if_pos c0, if_pos (Or.inl c0)]
        exact bad
      · rw [if_neg c0]
        by_cases x0 : X4 = 0
        · rw [if_pos x0, if_neg (show ¬ (C < 0 ∨ ¬ X4 = 0 ∧ ¬ (C = 48 ∨ C = 144 ∨ C = 112)) by omega)]
          exact well c0 (Or.inl x0)
        · rw [if_neg x0]
          by_cases q1 : C = 48
          · rw [if_pos q1, if_neg (show ¬ (C < 0 ∨ ¬ X4 = 0 ∧ ¬ (C = 48 ∨ C = 144 ∨ C = 112)) by omega)]
            exact well c0 (Or.inr (Or.inl q1))
          · rw [if_neg q1]
            by_cases q2 : C = 144
            · rw [if_pos q2, if_neg (show ¬ (C < 0 ∨ ¬ X4 = 0 ∧ ¬ (C = 48 ∨ C = 144 ∨ C = 112)) by omega)]
              exact well c0 (Or.inr (Or.inr (Or.inl q2)))
            · rw [if_neg q2]
              by_cases q3 : C = 112
              · rw [if_neg (fun z => z q3), if_neg (show ¬ (C < 0 ∨ ¬ X4 = 0 ∧ ¬ (C = 48 ∨ C = 144 ∨ C = 112)) by omega)]
                exact well c0 (Or.inr (Or.inr (Or.inr q3)))
              · rw [if_pos q3, if_pos (show (C < 0 ∨ ¬ X4 = 0 ∧ ¬ (C = 48 ∨ C = 144 ∨ C = 112)) by omega)]
                exact bad
    by_cases cn : nmP' t (tks t n (k + 1)) 60
    · rw [b2_yes cn, if_neg n10]
      refine okc_b (A355 g1 (by rw [nm_k cn]; decide)) fun τ2 p2 => ?_
      show okc (RR (lkB tb377) (B377_79, [some (mR (some 80)), some (mI r), some (mI w), some (mI B), some (mI 1), none, none], [], τ2)) none _
      exact s79 (k + 2) 1 τ2 (sS_1 cn).2.symm (sS_1 cn).1.symm (Or.inr rfl) p2.2 (rfn_t (rfn_W p2.1) f1) (stZ_q z1 p2.1)
    · rw [b2_no cn, if_pos y00]
      exact s79 (k + 1) 0 τ1 (sS_0 cn).2.symm (sS_0 cn).1.symm (Or.inl rfl) g1 f1 z1
/-- PTR = -/
theorem M38b (h : 0 ≤ gI τ 80 14) : okc (RR (lkB tb383) (B383_38, [some (mR (some 80))], [], τ)) none (fun υ => rfr υ τ ∧ gI υ 80 14 = gI τ 80 14) := by
  rw [e383_38, T358b h]
  simp only [Option.bind_some, Option.toList_some, Option.toList_none, List.cons_append, List.nil_append]
  rw [e383_42, if_pos y00, e383_96, T358b h]
  simp only [Option.bind_some, Option.toList_some, Option.toList_none, List.cons_append, List.nil_append]
  rw [e383_100, if_pos y00]
  exact okc_s ⟨rfr_r _, rfl⟩
theorem M11b (h : 0 ≤ gI τ 80 14) : okc (RR (lkB tb383) (B383_11, [some (mR (some 80))], [], τ)) none (fun υ => rfr υ τ ∧ gI υ 80 14 = gI τ 80 14) := by
  rw [e383_11]
  generalize iOr 98 _ = a
  generalize gI (sI τ 80 27 (gI τ 80 34)) 80 35 = b
  generalize gI τ 80 34 = c
  exact bd_I ⟨by omega, by omega⟩ (bd_I ⟨by omega, by omega⟩ (bd_I ⟨by omega, by omega⟩ (M38b (b14 (by omega) (b14 (by omega) (b14 (by omega) h))))))
theorem T383 (h : RG σ t n k) (z : stO_ σ) : okc (MM 383 [mR (some 80)] σ) none (fun τ => oR (pMem t (tks t n) k) (eR σ τ) (stP t n σ τ)) := by
  unfold pMem
  rw [M383, e383_0]
  refine okc_b (T382 (x := 0) h) fun τ1 p1 => ?_
  show okc (RR (lkB tb383) (B383_5, [some (mR (some 80))], [], τ1)) none _
  cases hp : pPtr t (tks t n) 0 k with
  | inl e =>
    rw [hp] at p1
    have hb : 0 ≤ gI τ1 80 14 := by rw [p1.2.1]; exact p1.2.2
    rw [e383_5, T361b hb]
    simp only [Option.bind_some, Option.toList_some, Option.toList_none, List.cons_append, List.nil_append]
    exact wr_e p1.1 p1.2.1 p1.2.2 (M11b hb)
  | inr q =>
    rw [hp] at p1
    obtain ⟨q1, g1, ⟨q3, q4⟩, q5, q6⟩ := p1
    obtain ⟨⟨Z, R, V⟩, J⟩ := q
    have g1 : RG τ1 t n J := g1
    show okc (RR (lkB tb383) (B383_5, [some (mR (some 80))], [], τ1)) none (fun τ => oR (if ¬ sgn (tks t n) 61 J then .inl (tB (tks t n J) : Int) else if tK (tks t n (J + 1)) = 2 then (bS (pRgt t (tks t n) 0 (J + 1)) fun u => .inr (((iOr 99 (iAnd Z 24), R, u.1, lI V, 0), (0, 0, 0), none), u.2)) else (bS (pCst (tks t n) (J + 1)) fun u => .inr (((iOr 98 (iAnd Z 24), R, 0, lI V, lI u.1), (0, 0, 0), none), u.2))) (eR σ τ) (stP t n σ τ))
    have q3 : gI τ1 80 36 = iAnd Z 24 := q3
    have q5 : gI τ1 80 34 = R := q5
    have q6 : gI τ1 80 35 = lI V := q6
    have z1 : stO_ τ1 := stO_q z fun s a b => q1.1 _ _ (by omega)
    rw [e383_5]
    by_cases c61 : sgn (tks t n) 61 J
    · rw [if_neg (show ¬ ¬ sgn (tks t n) 61 J from fun z => z c61)]
      refine okc_b (T361g g1 c61) fun τ2 p2 => ?_
      show okc (RR (lkB tb383) (B383_11, [some (mR (some 80))], [], τ2)) none _
      have e34 : gI τ2 80 34 = R := (p2.1.1 _ _ (by omega)).trans q5
      have e35 : gI (sI τ2 80 27 R) 80 35 = lI V := by rw [fO_ (by decide), p2.1.1 _ _ (by omega)]; exact q6
      have e36 : gI (sI (sI τ2 80 27 R) 80 29 (lI V)) 80 36 = iAnd Z 24 := by rw [fO_ (by decide), fO_ (by decide), p2.1.1 _ _ (by omega)]; exact q3
      have z2 := stO_W z1 p2.1
      rw [e383_11, e34, e35, e36]
      obtain ⟨ρ, hρ⟩ : ∃ ρ, ρ = sI (sI (sI τ2 80 27 R) 80 29 (lI V)) 80 26 (iOr 98 (iAnd Z 24)) := ⟨_, rfl⟩
      have fρ : rfn ρ σ := by rw [hρ]; exact rfn_t (rfn_I ⟨by omega, by omega⟩) (rfn_t (rfn_I ⟨by omega, by omega⟩) (rfn_t (rfn_I ⟨by omega, by omega⟩) (rfn_t (rfn_W p2.1) (rfn_P q1))))
      have gρ : RG ρ t n (J + 1) := by rw [hρ]; exact RG_I (RG_I (RG_I p2.2 (by omega)) (by omega)) (by omega)
      have v26 : gI ρ 80 26 = iOr 98 (iAnd Z 24) := by rw [hρ, fS_]
      have v27 : gI ρ 80 27 = R := by rw [hρ, fO_ (by decide), fO_ (by decide), fS_]
      have v28 : gI ρ 80 28 = 0 := by rw [hρ, fO_ (by decide), fO_ (by decide), fO_ (by decide)]; exact z2.2.2.1
      have v29 : gI ρ 80 29 = lI V := by rw [hρ, fO_ (by decide), fS_]
      have v30 : gI ρ 80 30 = 0 := by rw [hρ, fO_ (by decide), fO_ (by decide), fO_ (by decide)]; exact z2.2.2.2.2.1
      have v31 : gI ρ 80 31 = 0 := by rw [hρ, fO_ (by decide), fO_ (by decide), fO_ (by decide)]; exact z2.2.2.2.2.2.1
      have v33 : gI ρ 80 33 = 0 := by rw [hρ, fO_ (by decide), fO_ (by decide), fO_ (by decide)]; exact z2.2.2.2.2.2.2
      have v36 : gI ρ 80 36 = iAnd Z 24 := by rw [hρ, fO_ (by decide)]; exact e36
      rw [← hρ, e383_38, T358g gρ.2.2]
      simp only [Option.bind_some, Option.toList_some, Option.toList_none, List.cons_append, List.nil_append]
      rw [e383_42, if_neg n10, RG_9 gρ]
      by_cases c2 : tK (tks t n (J + 1)) = 2
      · rw [if_neg (show ¬ ¬ tK (tks t n (J + 1)) = 2 from fun z => z c2), if_pos c2]
        unfold pRgt
        by_cases cr : rgR t (tks t n (J + 1)) < 0 ∨ ¬ (if rgR t (tks t n (J + 1)) < 16 then (0 : Int) else 1) = 0
        · have hb := rqE_0 (mis gρ)
          rw [if_pos cr, T375e (x := 0) gρ (fun z => cr.elim (fun a => by have := z.1; omega) (fun a => z.2.elim (fun b => b rfl) a))]
          simp only [Option.bind_some, Option.toList_some, Option.toList_none, List.cons_append, List.nil_append]
          rw [e383_59, T358b (b14 (by omega) hb)]
          simp only [Option.bind_some, Option.toList_some, Option.toList_none, List.cons_append, List.nil_append]
          rw [e383_75, if_pos y00, e383_86, T373b (b14 (by omega) (b14 (by omega) hb))]
          simp only [Option.bind_some, Option.toList_some, Option.toList_none, List.cons_append, List.nil_append]
          rw [e383_93]
          exact okc_s ⟨rfr_t (rfr_I ⟨by omega, by omega⟩) (rfr_t (rfr_I ⟨by omega, by omega⟩) (rfr_t rfr_14 (rfr_n fρ))), by rw [fO_ (by decide), fO_ (by decide)]; exact (mis gρ).2, by omega⟩
        · have cr1 : 0 ≤ rgR t (tks t n (J + 1)) := by omega
          have cr2 : (if rgR t (tks t n (J + 1)) < 16 then (0 : Int) else 1) = 0 := Classical.byContradiction fun z => cr (Or.inr z)
          have c16 : rgR t (tks t n (J + 1)) < 16 := Classical.byContradiction fun z => by
            rw [if_neg z] at cr2
            cases cr2
          have rr := rgR_r (t := t) (X := tks t n (J + 1))
          have gx : RG (sI ρ 80 26 (iOr 99 (gI ρ 80 36))) t n (J + 1) := RG_I gρ (by omega)
          rw [if_neg cr, T375g (x := 0) gρ (Or.inl rfl) ⟨cr1, Or.inr cr2⟩, and15' (by omega)]
          simp only [Option.bind_some, Option.toList_some, Option.toList_none, List.cons_append, List.nil_append]
          rw [e383_59, T358g gx.2.2]
          simp only [Option.bind_some, Option.toList_some, Option.toList_none, List.cons_append, List.nil_append]
          rw [e383_75, if_neg n10, T364 gx]
          simp only [Option.bind_some, Option.toList_some, Option.toList_none, List.cons_append, List.nil_append]
          rw [e383_82, e383_86, v36]
          refine okc_b (T373g (RG_I (RG_I gρ (by omega)) (by omega)) (by rw [c2]; decide)) fun τ3 p3 => ?_
          show okc (RR (lkB tb383) (B383_93, [some (mR (some 80))], [], τ3)) none _
          rw [e383_93]
          refine okc_s (stP_k (rfn_t (rfn_W p3.1) (rfn_t (rfn_I ⟨by omega, by omega⟩) (rfn_t (rfn_I ⟨by omega, by omega⟩) fρ))) p3.2 ⟨?_, ?_, ?_, ?_, ?_⟩ ⟨?_, (fun a => (a.elim (fun a => absurd rfl a) (fun a => absurd rfl a))), ?_⟩ rfl)
          · rw [p3.1.1 _ _ (by omega), fO_ (by decide), fS_]
          · rw [p3.1.1 _ _ (by omega), fO_ (by decide), fO_ (by decide)]; exact v27
          · rw [p3.1.1 _ _ (by omega), fS_]
          · rw [p3.1.1 _ _ (by omega), fO_ (by decide), fO_ (by decide)]; exact v29
          · rw [p3.1.1 _ _ (by omega), fO_ (by decide), fO_ (by decide)]; exact v30
          · rw [p3.1.1 _ _ (by omega), fO_ (by decide), fO_ (by decide)]; exact v31
          · rw [p3.1.1 _ _ (by omega), fO_ (by decide), fO_ (by decide)]; exact v33
      · rw [if_pos c2, if_neg c2, e383_96, T358g gρ.2.2]
        simp only [Option.bind_some, Option.toList_some, Option.toList_none, List.cons_append, List.nil_append]
        rw [e383_100, if_neg n10]
        have tt := T374 gρ
        cases pc : pCst (tks t n) (J + 1) with
        | inl e =>
          obtain ⟨v, hv⟩ := tt.1 e pc
          refine okc_b hv fun τ3 p3 => ?_
          show okc (RR (lkB tb383) (B383_108, [some (mR (some 80))], [mI v, mR (some 80)], τ3)) none _
          rw [e383_108]
          exact okc_s ⟨rfr_t (rfr_I ⟨by omega, by omega⟩) (rfr_t (rfr_W p3.1.1) (rfr_n fρ)), by rw [fO_ (by decide)]; exact p3.1.2, p3.2⟩
        | inr u =>
          refine okc_b (tt.2 u pc) fun τ3 p3 => ?_
          show okc (RR (lkB tb383) (B383_108, [some (mR (some 80))], [mI (lI u.1), mR (some 80)], τ3)) none _
          rw [e383_108]
          refine okc_s (stP_k (rfn_t (rfn_I ⟨by omega, by omega⟩) (rfn_t (rfn_W p3.1) fρ)) (RG_I p3.2 (by omega)) ⟨?_, ?_, ?_, ?_, ?_⟩ ⟨?_, (fun a => (a.elim (fun a => absurd rfl a) (fun a => absurd rfl a))), ?_⟩ rfl)
          · rw [fO_ (by decide), p3.1.1 _ _ (by omega)]; exact v26
          · rw [fO_ (by decide), p3.1.1 _ _ (by omega)]; exact v27
          · rw [fO_ (by decide), p3.1.1 _ _ (by omega)]; exact v28
          · rw [fO_ (by decide), p3.1.1 _ _ (by omega)]; exact v29
          · rw [fS_]
          · rw [fO_ (by decide), p3.1.1 _ _ (by omega)]; exact v31
          · rw [fO_ (by decide), p3.1.1 _ _ (by omega)]; exact v33
    · rw [if_pos (show ¬ sgn (tks t n) 61 J from c61), T361e g1 c61]
      simp only [Option.bind_some, Option.toList_some, Option.toList_none, List.cons_append, List.nil_append]
      exact wr_e (rfr_t rfr_14 (rfr_P q1)) (mis g1).2 (by omega) (M11b (rqE_0 (mis g1)))
end RST
