/-! ===== the reference: if, call, a word is made ===== -/
/-- a word out of its parts -/
def wdR (op d s f i : Int) : B64 := (((lShl (iL i) 32 ||| lShl (iL f &&& iL 65535) 16) ||| iL (iShl s 12)) ||| iL (iShl d 8)) ||| iL op
def srW (r : SR) : B64 := if r.2.1.1 = 0 then wdR r.1.1 r.1.2.1 r.1.2.2.1 r.1.2.2.2.1 r.1.2.2.2.2 else r.2.1.2.1
/-- it is an instruction, and there is room -/
def okF (r : SR) (M : Nat) : Prop := (¬ r.2.1.1 = 0 ∨ (r.2.1.2.2 = 0 ∧ okPl (srW r)) ∨ (¬ r.2.1.2.2 = 0 ∧ okPr (srW r) r.2.1.2.1)) ∧ M + (if r.2.1.2.2 = 0 then 1 else 2) ≤ 200
section RSV
variable {t : Nat → Int} {n i j k m u M : Nat} {σ τ ρ υ : MS} {c d e o w x x1 x2 x3 x4 y s r B : Int} {v : B64} {q : B64 × Int} {T : TK}
theorem T337 {x0 x1 x2 x3 x4 : Int} : MM 337 [mI x0, mI x1, mI x2, mI x3, mI x4] σ = some (some (mL (wdR x0 x1 x2 x3 x4)), σ) := by
  rw [M337, e337_0]
  rfl
theorem C174b (h : 0 ≤ gI τ 80 14) : okc (RR (lkB tb385) (B385_174, [some (mR (some 80)), some (mI x1), some (mI x2), some (mI x3), some (mI x4)], [], τ)) none (fun υ => rfr υ τ ∧ gI υ 80 14 = gI τ 80 14) := by
  rw [e385_174, T373b h]
  simp only [Option.bind_some, Option.toList_some, Option.toList_none, List.cons_append, List.nil_append]
  rw [e385_178]
  refine okc_b (T387b h) fun υ p => ?_
  show okc (RR (lkB tb385) (B385_183, [some (mR (some 80)), some (mI x1), some (mI x2), some (mI x3), some (mI x4)], [], υ)) none _
  rw [e385_183]
  exact okc_s p
theorem C149b (h : 0 ≤ gI τ 80 14) : okc (RR (lkB tb385) (B385_149, [some (mR (some 80)), some (mI x1), some (mI x2), some (mI x3), some (mI x4)], [], τ)) none (fun υ => rfr υ τ ∧ gI υ 80 14 = gI τ 80 14) := by
  rw [e385_149, T358b h]
  simp only [Option.bind_some, Option.toList_some, Option.toList_none, List.cons_append, List.nil_append]
  rw [e385_153, if_pos y00]
  exact C174b h
theorem C123b (h : 0 ≤ gI τ 80 14) : okc (RR (lkB tb385) (B385_123, [some (mR (some 80)), some (mI x1), some (mI x2), some (mI x3), some (mI x4)], [], τ)) none (fun υ => rfr υ τ ∧ gI υ 80 14 = gI τ 80 14) := by
  have s136 : ∀ y : Int, okc (RR (lkB tb385) (B385_136, [some (mR (some 80)), some (mI x1), some (mI x2), some (mI x3), some (mI x4)], [mI y, mI x4, mR (some 80)], τ)) none (fun υ => rfr υ τ ∧ gI υ 80 14 = gI τ 80 14) := fun y => by
    rw [e385_136, T373b (b14 (by omega) h)]
    simp only [Option.bind_some, Option.toList_some, Option.toList_none, List.cons_append, List.nil_append]
    rw [e385_144, T376b (b14 (by omega) h)]
    simp only [Option.bind_some, Option.toList_some, Option.toList_none, List.cons_append, List.nil_append]
    exact bd_I ⟨by omega, by omega⟩ (C149b (b14 (by omega) h))
  rw [e385_123]
  by_cases c : x2 = 0
  · rw [if_pos c]; exact s136 _
  · rw [if_neg c]; exact s136 _
theorem C77b (h : 0 ≤ gI τ 80 14) : okc (RR (lkB tb385) (B385_77, [some (mR (some 80)), some (mI x1), some (mI x2), some (mI x3), none], [], τ)) none (fun υ => rfr υ τ ∧ gI υ 80 14 = gI τ 80 14) := by
  rw [e385_77, T358b h]
  simp only [Option.bind_some, Option.toList_some, Option.toList_none, List.cons_append, List.nil_append]
  rw [e385_81, if_pos y00, e385_100, e385_101, T358b h]
  simp only [Option.bind_some, Option.toList_some, Option.toList_none, List.cons_append, List.nil_append]
  rw [e385_107, if_pos y00]
  exact C123b h
theorem C6b (h : 0 ≤ gI τ 80 14) : okc (RR (lkB tb385) (B385_6, [some (mR (some 80)), none, none, none, none], [], τ)) none (fun υ => rfr υ τ ∧ gI υ 80 14 = gI τ 80 14) := by
  have hb := b14 (s := 27) (y := iAnd 0 15) (by omega) h
  rw [e385_6, T358b h]
  simp only [Option.bind_some, Option.toList_some, Option.toList_none, List.cons_append, List.nil_append]
  rw [e385_10, if_pos y00, e385_21, if_pos (show (0 : Int) < 16 by decide), e385_33, T373b hb]
  simp only [Option.bind_some, Option.toList_some, Option.toList_none, List.cons_append, List.nil_append]
  rw [e385_46, T358b hb]
  simp only [Option.bind_some, Option.toList_some, Option.toList_none, List.cons_append, List.nil_append]
  rw [e385_50, if_pos y00, e385_67, e385_68, if_pos y00]
  exact bd_I ⟨by omega, by omega⟩ (C77b hb)
theorem cmT_c : cmT' T s = -1 ∨ cmT' T s ∈ [(16 : Int), 32, 48, 64, 80, 96, 112, 160, 176, 192, 208] := by
  unfold cmT'
  split
  · unfold cpT
    repeat' split
    all_goals first | exact Or.inl rfl | (refine Or.inr ?_; decide)
  · exact Or.inl rfl
theorem cmT_4 (h : ¬ cmT' T s < 0) : tK T = 4 := by
  refine Classical.byContradiction fun c => h ?_
  unfold cmT'
  rw [if_neg c]
  decide
theorem iOr_cj : ∀ c ∈ [(16 : Int), 32, 48, 64, 80, 96, 112, 160, 176, 192, 208], ∀ b ∈ [(5 : Int), 6], (0 ≤ iOr c b ∧ iOr c b < 256) ∧ ∀ a ∈ [(0 : Int), 8], ¬ iOr (iOr c b) a = 6 ∧ ¬ iOr (iOr c b) a = 133 := by decide
theorem pSid_a {T : Nat → TK} {q : (Int × Int × B64) × Nat} (h : pSid t T w k = .inr q) : q.1.1 = 0 ∨ q.1.1 = 8 := by
  unfold pSid at h
  by_cases c : tK (T k) = 2
  · rw [if_pos c] at h
    cases hp : pRgt t T w k with
    | inl e => rw [hp] at h; cases h
    | inr p =>
      rw [hp] at h
      have := Sum.inr.inj h
      rw [← this]
      exact Or.inr rfl
  · rw [if_neg c] at h
    cases hp : pCst T k with
    | inl e => rw [hp] at h; cases h
    | inr p =>
      rw [hp] at h
      have := Sum.inr.inj h
      rw [← this]
      exact Or.inl rfl
/-- behind if -/
theorem T385 (h : RG σ t n k) (z : stO_ σ) (hu : gI σ 80 25 = (u : Int)) (hu2 : u < 203) : okc (MM 385 [mR (some 80)] σ) none (fun τ => oR (pIf t (tks t n) k) (eR σ τ) (stP t n σ τ)) := by
  unfold pIf
  rw [M385, e385_0]
  obtain ⟨r, er⟩ : ∃ r, r = rgR t (tks t n k) := ⟨_, rfl⟩
  rw [← er]
  by_cases cr : r < 0
  · rw [if_pos cr, T375e (x := 1) h (fun z => by have := z.1; omega)]
    simp only [Option.bind_some, Option.toList_some, Option.toList_none, List.cons_append, List.nil_append]
    exact wr_e rfr_14 (mis h).2 (by omega) (C6b (rqE_0 (mis h)))
  · have k2 : tK (tks t n k) = 2 := rgR_n (t := t) (by omega)
    obtain ⟨w, hw⟩ : ∃ w, w = wOf r := ⟨_, rfl⟩
    have wb : w = 0 ∨ w = 1 := by rw [hw]; exact wOf_b
    have s33 : RR (lkB tb385) (B385_6, [some (mR (some 80)), none, none, none, none], [], σ) = RR (lkB tb385) (B385_33, [some (mR (some 80)), some (mI r), none, none, none], [mI w], σ) := by
      rw [e385_6, T358g h.2.2]
      simp only [Option.bind_some, Option.toList_some, Option.toList_none, List.cons_append, List.nil_append]
      rw [e385_10, if_neg n10, T364 h, ← er]
      simp only [Option.bind_some, Option.toList_some, Option.toList_none, List.cons_append, List.nil_append]
      rw [e385_17, e385_21, hw]
      unfold wOf
      by_cases c16 : r < 16
      · rw [if_pos c16, if_pos c16]
      · rw [if_neg c16, if_neg c16]
    rw [if_neg cr, T375g (x := 1) h (Or.inl rfl) ⟨by omega, Or.inl (by decide)⟩]
    simp only [Option.bind_some, Option.toList_some, Option.toList_none, List.cons_append, List.nil_append]
    rw [s33, e385_33]
    refine okc_b (T373g (RG_I h (by omega)) (by rw [k2]; decide)) fun τ1 p1 => ?_
    show okc (RR (lkB tb385) (B385_46, [some (mR (some 80)), some (mI r), some (mI w), none, none], [], τ1)) none _
    have g1 : RG τ1 t n (k + 1) := p1.2
    have f1 : rfn τ1 σ := rfn_t (rfn_W p1.1) (rfn_I ⟨by omega, by omega⟩)
    obtain ⟨a1, a2, a3, a4, a5, a6, a7⟩ := z
    have z1 : stZ τ1 (iAnd r 15) := by
      refine ⟨?_, ?_, ?_, ?_, ?_, ?_⟩
      · rw [p1.1.1 _ _ (by omega), fS_]
      · rw [p1.1.1 _ _ (by omega), fO_ (by decide)]; exact a3
      · rw [p1.1.1 _ _ (by omega), fO_ (by decide)]; exact a4
      · rw [p1.1.1 _ _ (by omega), fO_ (by decide)]; exact a5
      · rw [p1.1.1 _ _ (by omega), fO_ (by decide)]; exact a6
      · rw [p1.1.1 _ _ (by omega), fO_ (by decide)]; exact a7
    rw [e385_46, T358g g1.2.2]
    simp only [Option.bind_some, Option.toList_some, Option.toList_none, List.cons_append, List.nil_append]
    rw [e385_50, if_neg n10, N362 g1 (by decide)]
    simp only [Option.bind_some, Option.toList_some, Option.toList_none, List.cons_append, List.nil_append]
    have s77 : ∀ (J : Nat) (X3 : Int) (τ2 : MS), J = skN t (tks t n) (k + 1) → X3 = sS t (tks t n) (k + 1) → RG τ2 t n J → rfn τ2 σ → stZ τ2 (iAnd r 15) → okc (RR (lkB tb385) (B385_77, [some (mR (some 80)), some (mI r), some (mI w), some (mI X3), none], [], τ2)) none (fun τ => oR (if cmT' (tks t n (skN t (tks t n) (k + 1))) (sS t (tks t n) (k + 1)) < 0 then .inl (tB (tks t n (skN t (tks t n) (k + 1))) : Int)
        else bS (pSid t (tks t n) (wOf r) (skN t (tks t n) (k + 1) + 1)) fun q => if ¬ nmP' t (tks t n q.2) 52 then .inl (tB (tks t n q.2) : Int) else bS (pWh t (tks t n) (iL 32767) (q.2 + 1)) fun u => .inr (((iOr (iOr (cmT' (tks t n (skN t (tks t n) (k + 1))) (sS t (tks t n) (k + 1))) (if r < 16 then 5 else 6)) q.1.1, iAnd r 15, q.1.2.1, lI u.1.2, lI q.1.2.2), (0, 0, 0), u.1.1), u.2)) (eR σ τ) (stP t n σ τ)) := fun J X3 τ2 hJ hX g2 f2 z2 => by
      rw [← hJ, ← hX]
      obtain ⟨C, hC⟩ : ∃ C, C = cmT' (tks t n J) X3 := ⟨_, rfl⟩
      have s101 : RR (lkB tb385) (B385_77, [some (mR (some 80)), some (mI r), some (mI w), some (mI X3), none], [], τ2) = RR (lkB tb385) (B385_101, [some (mR (some 80)), some (mI r), some (mI w), some (mI X3), none], [mI C], τ2) := by
        rw [e385_77, T358g g2.2.2]
        simp only [Option.bind_some, Option.toList_some, Option.toList_none, List.cons_append, List.nil_append]
        rw [e385_81, if_neg n10, RG_9 g2]
        unfold cmT' at hC
        by_cases c4 : tK (tks t n J) = 4
        · rw [if_pos c4] at hC
          rw [if_neg (show ¬ ¬ tK (tks t n J) = 4 from fun z => z c4), T386 (RG_11 g2 c4)]
          simp only [Option.bind_some, Option.toList_some, Option.toList_none, List.cons_append, List.nil_append]
          rw [e385_97, hC]
        · rw [if_neg c4] at hC
          rw [if_pos c4, e385_100, hC]
      rw [s101, ← hC, e385_101, T358g g2.2.2]
      simp only [Option.bind_some, Option.toList_some, Option.toList_none, List.cons_append, List.nil_append]
      rw [e385_107, if_neg n10]
      by_cases c0 : C < 0
      · rw [if_neg (show ¬ 0 ≤ C by omega), if_pos c0, T359g g2.2.2, RG_10 g2]
        simp only [Option.bind_some, Option.toList_some, Option.toList_none, List.cons_append, List.nil_append]
        exact wr_e (rfr_t rfr_14 (rfr_n f2)) (mis g2).2 (by omega) (C123b (rqE_0 (mis g2)))
      · have k4 : tK (tks t n J) = 4 := cmT_4 (s := X3) (by rw [← hC]; exact c0)
        have cc : C ∈ [(16 : Int), 32, 48, 64, 80, 96, 112, 160, 176, 192, 208] := by
          have := cmT_c (T := tks t n J) (s := X3)
          rw [← hC] at this
          exact this.resolve_left (by omega)
        rw [if_pos (show 0 ≤ C by omega), if_neg c0]
        obtain ⟨Q, hQ⟩ : ∃ Q : Int, Q = if r < 16 then 5 else 6 := ⟨_, rfl⟩
        have qq : Q ∈ [(5 : Int), 6] := by
          rw [hQ]
          split <;> decide
        have rng := iOr_cj C cc Q qq
        rw [← hQ]
        have s136 : RR (lkB tb385) (B385_123, [some (mR (some 80)), some (mI r), some (mI w), some (mI X3), some (mI C)], [], τ2) = RR (lkB tb385) (B385_136, [some (mR (some 80)), some (mI r), some (mI w), some (mI X3), some (mI C)], [mI Q, mI C, mR (some 80)], τ2) := by
          rw [e385_123, hQ, hw]
          unfold wOf
          by_cases c16 : r < 16
          · rw [if_pos c16, if_pos c16, if_pos y00]
          · rw [if_neg c16, if_neg c16, if_neg n10]
        rw [s136, e385_136]
        refine okc_b (T373g (RG_I g2 (by omega)) (by rw [k4]; decide)) fun τ3 p3 => ?_
        show okc (RR (lkB tb385) (B385_144, [some (mR (some 80)), some (mI r), some (mI w), some (mI X3), some (mI C)], [], τ3)) none _
        have f3 : rfn τ3 σ := rfn_t (rfn_W p3.1) (rfn_t (rfn_I ⟨by omega, by omega⟩) f2)
        have v26 : gI τ3 80 26 = iOr C Q := by rw [p3.1.1 _ _ (by omega), fS_]
        have v27 : gI τ3 80 27 = iAnd r 15 := by rw [p3.1.1 _ _ (by omega), fO_ (by decide)]; exact z2.1
        have v28 : gI τ3 80 28 = 0 := by rw [p3.1.1 _ _ (by omega), fO_ (by decide)]; exact z2.2.1
        have v29 : gI τ3 80 29 = 0 := by rw [p3.1.1 _ _ (by omega), fO_ (by decide)]; exact z2.2.2.1
        have v30 : gI τ3 80 30 = 0 := by rw [p3.1.1 _ _ (by omega), fO_ (by decide)]; exact z2.2.2.2.1
        have v31 : gI τ3 80 31 = 0 := by rw [p3.1.1 _ _ (by omega), fO_ (by decide)]; exact z2.2.2.2.2.1
        have v33 : gI τ3 80 33 = 0 := by rw [p3.1.1 _ _ (by omega), fO_ (by decide)]; exact z2.2.2.2.2.2
        have v25 : gI τ3 80 25 = (u : Int) := (f3.1 _ _ (by omega)).trans hu
        rw [e385_144]
        refine okc_b (T376 p3.2 wb (by rw [v26]; exact rng.1) v28 v30) fun τ4 p4 => ?_
        show okc (RR (lkB tb385) (B385_149, [some (mR (some 80)), some (mI r), some (mI w), some (mI X3), some (mI C)], [], τ4)) none _
        rw [hw] at p4
        cases hp : pSid t (tks t n) (wOf r) (J + 1) with
        | inl e =>
          rw [hp] at p4
          have hb : 0 ≤ gI τ4 80 14 := by rw [p4.2.1]; exact p4.2.2
          exact wr_e (rfr_t p4.1 (rfr_n f3)) p4.2.1 p4.2.2 (C149b hb)
        | inr q =>
          rw [hp] at p4
          have qa := pSid_a hp
          obtain ⟨⟨Qa, Qs, Qv⟩, L⟩ := q
          obtain ⟨b1, g4, b3, b4, b5⟩ := p4
          have g4 : RG τ4 t n L := g4
          have b3 : gI τ4 80 26 = iOr (gI τ3 80 26) Qa := b3
          have b4 : gI τ4 80 28 = Qs := b4
          have b5 : gI τ4 80 30 = lI Qv := b5
          have qa : Qa = 0 ∨ Qa = 8 := qa
          have f4 : rfn τ4 σ := rfn_t (rfn_S b1) f3
          show okc (RR (lkB tb385) (B385_149, [some (mR (some 80)), some (mI r), some (mI w), some (mI X3), some (mI C)], [], τ4)) none (fun τ => oR (if ¬ nmP' t (tks t n L) 52 then .inl (tB (tks t n L) : Int) else bS (pWh t (tks t n) (iL 32767) (L + 1)) fun u => .inr (((iOr (iOr C Q) Qa, iAnd r 15, Qs, lI u.1.2, lI Qv), (0, 0, 0), u.1.1), u.2)) (eR σ τ) (stP t n σ τ))
          rw [e385_149, T358g g4.2.2]
          simp only [Option.bind_some, Option.toList_some, Option.toList_none, List.cons_append, List.nil_append]
          rw [e385_153, if_neg n10, N362 g4 (by decide)]
          simp only [Option.bind_some, Option.toList_some, Option.toList_none, List.cons_append, List.nil_append]
          rw [e385_163]
          by_cases cg : nmP' t (tks t n L) 52
          · rw [b2_yes cg, if_pos n10, if_neg (show ¬ ¬ nmP' t (tks t n L) 52 from fun z => z cg), e385_174]
            refine okc_b (T373g g4 (by rw [nm_k cg]; decide)) fun τ5 p5 => ?_
            show okc (RR (lkB tb385) (B385_178, [some (mR (some 80)), some (mI r), some (mI w), some (mI X3), some (mI C)], [], τ5)) none _
            have f5 : rfn τ5 σ := rfn_t (rfn_W p5.1) f4
            have w25 : gI τ5 80 25 = (u : Int) := (f5.1 _ _ (by omega)).trans hu
            have w29 : gI τ5 80 29 = 0 := by rw [p5.1.1 _ _ (by omega), b1.1 _ _ (by omega)]; exact v29
            rw [e385_178]
            refine okc_b (T387 (x := 0) (most := iL 32767) p5.2 (Or.inl rfl) (if_pos y00).symm w25 hu2 w29 (fun z => absurd rfl z)) fun τ6 p6 => ?_
            show okc (RR (lkB tb385) (B385_183, [some (mR (some 80)), some (mI r), some (mI w), some (mI X3), some (mI C)], [], τ6)) none _
            rw [e385_183]
            refine okc_s ?_
            cases hq : pWh t (tks t n) (iL 32767) (L + 1) with
            | inl e =>
              rw [hq] at p6
              exact ⟨rfr_t p6.1 (rfr_n f5), p6.2⟩
            | inr q =>
              rw [hq] at p6
              obtain ⟨d1, d2, d3, d4, d5⟩ := p6
              rw [if_pos y00] at d4 d5
              have wz : wdO (iOr (iOr C Q) Qa) = 0 := by
                have := rng.2 Qa (by rcases qa with z | z <;> rw [z] <;> decide)
                exact if_neg (fun z => z.elim this.1 this.2)
              have w26 : gI τ5 80 26 = iOr (iOr C Q) Qa := by rw [p5.1.1 _ _ (by omega), b3, v26]
              refine ⟨rfr_t (rfr_H d1) (rfr_n f5), d2, ⟨?_, ?_, ?_, ?_, ?_⟩, ⟨?_, (fun a => (a.elim (fun a => absurd rfl a) (fun a => absurd rfl a))), ?_⟩, ?_⟩
              · rw [d1.1 _ _ (by omega) (by omega)]; exact w26
              · rw [d1.1 _ _ (by omega) (by omega), p5.1.1 _ _ (by omega), b1.1 _ _ (by omega)]; exact v27
              · rw [d1.1 _ _ (by omega) (by omega), p5.1.1 _ _ (by omega)]; exact b4
              · exact d4
              · rw [d5, p5.1.1 _ _ (by omega)]; exact b5
              · rw [d1.1 _ _ (by omega) (by omega), p5.1.1 _ _ (by omega), b1.1 _ _ (by omega)]; exact v31
              · rw [d1.1 _ _ (by omega) (by omega), p5.1.1 _ _ (by omega), b1.1 _ _ (by omega)]; exact v33
              · show lnR t n τ6 σ q.1.1 (wdO (iOr (iOr C Q) Qa))
                rw [wz]
                exact lnR_q d3 f5
          · rw [b2_no cg, if_neg (fun z => z y00), if_pos (show ¬ nmP' t (tks t n L) 52 from cg), T359g g4.2.2, RG_10 g4]
            simp only [Option.bind_some, Option.toList_some, Option.toList_none, List.cons_append, List.nil_append]
            exact wr_e (rfr_t rfr_14 (rfr_n f4)) (mis g4).2 (by omega) (C174b (rqE_0 (mis g4)))
    rw [e385_60, e385_67]
    by_cases cn : nmP' t (tks t n (k + 1)) 60
    · rw [b2_yes cn, if_neg n10, e385_68, if_neg n10]
      refine okc_b (A355 g1 (by rw [nm_k cn]; decide)) fun τ2 p2 => ?_
      show okc (RR (lkB tb385) (B385_77, [some (mR (some 80)), some (mI r), some (mI w), some (mI 1), none], [], τ2)) none _
      exact s77 (k + 2) 1 τ2 (sS_1 cn).2.symm (sS_1 cn).1.symm p2.2 (rfn_t (rfn_W p2.1) f1) (stZ_q z1 p2.1)
    · rw [b2_no cn, if_pos y00, e385_68, if_pos y00]
      exact s77 (k + 1) 0 τ1 (sS_0 cn).2.symm (sS_0 cn).1.symm g1 f1 z1
/-- goto, gotol: behind the name -/
theorem L387 {op : Int} {most : B64} (h : RG σ t n k) (z : stO_ σ) (hu : gI σ 80 25 = (u : Int)) (hu2 : u < 203) (hx : x = 0 ∨ x = 1) (hm : most = if x = 0 then iL 32767 else iL 2147483647) (ho : wdO op = x) : okc (MM 387 [mR (some 80), mI x] (sI σ 80 26 op)) none (fun τ => oR (bS (pWh t (tks t n) most k) fun u => .inr (((op, 0, 0, (if x = 0 then lI u.1.2 else 0), (if x = 0 then 0 else lI u.1.2)), (0, 0, 0), u.1.1), u.2)) (eR σ τ) (stP t n σ τ)) := by
  obtain ⟨a1, a2, a3, a4, a5, a6, a7⟩ := z
  have f : rfn (sI σ 80 26 op) σ := rfn_I ⟨by omega, by omega⟩
  refine okc_m (T387 (RG_I h (by omega)) hx hm (by rw [fO_ (by decide)]; exact hu) hu2 (by rw [fO_ (by decide)]; exact a4) (fun _ => by rw [fO_ (by decide)]; exact a5)) fun τ p => ?_
  cases hq : pWh t (tks t n) most k with
  | inl e =>
    rw [hq] at p
    exact ⟨rfr_t p.1 (rfr_n f), p.2⟩
  | inr q =>
    rw [hq] at p
    obtain ⟨d1, d2, d3, d4, d5⟩ := p
    refine ⟨rfr_t (rfr_H d1) (rfr_n f), d2, ⟨?_, ?_, ?_, d4, ?_⟩, ⟨?_, (fun a => (a.elim (fun a => absurd rfl a) (fun a => absurd rfl a))), ?_⟩, ?_⟩
    · rw [d1.1 _ _ (by omega) (by omega), fS_]
    · rw [d1.1 _ _ (by omega) (by omega), fO_ (by decide)]; exact a2
    · rw [d1.1 _ _ (by omega) (by omega), fO_ (by decide)]; exact a3
    · refine d5.trans ?_
      rw [fO_ (by decide), a5]
    · rw [d1.1 _ _ (by omega) (by omega), fO_ (by decide)]; exact a6
    · rw [d1.1 _ _ (by omega) (by omega), fO_ (by decide)]; exact a7
    · show lnR t n τ σ q.1.1 (wdO op)
      rw [ho]
      exact lnR_q d3 f
/-- call -/
theorem T388 (h : RG σ t n k) (z : stO_ σ) (hu : gI σ 80 25 = (u : Int)) (hu2 : u < 203) : okc (MM 388 [mR (some 80)] σ) none (fun τ => oR (pCal t (tks t n) k) (eR σ τ) (stP t n σ τ)) := by
  obtain ⟨a1, a2, a3, a4, a5, a6, a7⟩ := z
  have g0 : RG (sI σ 80 26 133) t n k := RG_I h (by omega)
  have f0 : rfn (sI σ 80 26 133) σ := rfn_I ⟨by omega, by omega⟩
  unfold pCal
  rw [M388, e388_0, RG_9 g0]
  by_cases c3 : tK (tks t n k) = 3
  · rw [if_neg (show ¬ ¬ tK (tks t n k) = 3 from fun z => z c3), if_pos c3]
    have bad : ∀ τ : MS, 0 ≤ gI τ 80 14 → okc (RR (lkB tb388) (B388_47, [some (mR (some 80))], [], τ)) none (fun υ => rfr υ τ ∧ gI υ 80 14 = gI τ 80 14) := fun τ hb => by
      rw [e388_47, T373b (b14 (by omega) hb)]
      simp only [Option.bind_some, Option.toList_some, Option.toList_none, List.cons_append, List.nil_append]
      rw [e388_60]
      exact bd_I ⟨by omega, by omega⟩ (okc_s ⟨rfr_r _, rfl⟩)
    by_cases c0 : tK (tks t n k) = 3 ∧ tkS (tks t n k) = 0
    · rw [T372g g0 c0]
      simp only [Option.bind_some, Option.toList_some, Option.toList_none, List.cons_append, List.nil_append]
      rw [e388_19, T358g g0.2.2]
      simp only [Option.bind_some, Option.toList_some, Option.toList_none, List.cons_append, List.nil_append]
      rw [e388_23, if_neg n10, T389, RG_12 g0 c3]
      simp only [Option.bind_some, Option.toList_some, Option.toList_none, List.cons_append, List.nil_append]
      rw [e388_36]
      unfold pNum
      by_cases cl : iL 2147483647 < tV (tks t n k)
      · rw [b2_yes cl, if_neg n10, if_neg (show ¬ (tK (tks t n k) = 3 ∧ tkS (tks t n k) = 0 ∧ ¬ iL 2147483647 < tV (tks t n k)) from fun z => z.2.2 cl), T359g g0.2.2, RG_10 g0]
        simp only [Option.bind_some, Option.toList_some, Option.toList_none, List.cons_append, List.nil_append]
        exact wr_e (rfr_t rfr_14 (rfr_n f0)) (mis g0).2 (by omega) (bad _ (rqE_0 (mis g0)))
      · rw [b2_no cl, if_pos y00, if_pos (show tK (tks t n k) = 3 ∧ tkS (tks t n k) = 0 ∧ ¬ iL 2147483647 < tV (tks t n k) from ⟨c0.1, c0.2, cl⟩), e388_47, RG_12 g0 c3]
        refine okc_b (T373g (RG_I g0 (by omega)) (by rw [c3]; decide)) fun τ1 p1 => ?_
        show okc (RR (lkB tb388) (B388_60, [some (mR (some 80))], [], τ1)) none _
        rw [e388_60]
        refine okc_s (stP_k (rfn_t (rfn_W p1.1) (rfn_t (rfn_I ⟨by omega, by omega⟩) f0)) p1.2 ⟨?_, ?_, ?_, ?_, ?_⟩ ⟨?_, (fun a => (a.elim (fun a => absurd rfl a) (fun a => absurd rfl a))), ?_⟩ rfl)
        · rw [p1.1.1 _ _ (by omega), fO_ (by decide), fS_]
        · rw [p1.1.1 _ _ (by omega), fO_ (by decide), fO_ (by decide)]; exact a2
        · rw [p1.1.1 _ _ (by omega), fO_ (by decide), fO_ (by decide)]; exact a3
        · rw [p1.1.1 _ _ (by omega), fO_ (by decide), fO_ (by decide)]; exact a4
        · rw [p1.1.1 _ _ (by omega), fS_]
        · rw [p1.1.1 _ _ (by omega), fO_ (by decide), fO_ (by decide)]; exact a6
        · rw [p1.1.1 _ _ (by omega), fO_ (by decide), fO_ (by decide)]; exact a7
    · have pn : pNum (tks t n) (iL 2147483647) k = .inl (tB (tks t n k) : Int) := if_neg (fun z => c0 ⟨z.1, z.2.1⟩)
      have hb := rqE_0 (mis g0)
      rw [pn, T372e g0 c0]
      simp only [Option.bind_some, Option.toList_some, Option.toList_none, List.cons_append, List.nil_append]
      rw [e388_19, T358b hb]
      simp only [Option.bind_some, Option.toList_some, Option.toList_none, List.cons_append, List.nil_append]
      rw [e388_23, if_pos y00]
      exact wr_e (rfr_t rfr_14 (rfr_n f0)) (mis g0).2 (by omega) (bad _ hb)
  · rw [if_pos c3, if_neg c3]
    have f1 : rfn (sI (sI σ 80 26 133) 80 28 1) σ := rfn_t (rfn_I ⟨by omega, by omega⟩) f0
    refine okc_b (T387 (x := 1) (most := iL 2147483647) (RG_I g0 (by omega)) (Or.inr rfl) (if_neg n10).symm (by rw [fO_ (by decide), fO_ (by decide)]; exact hu) hu2 (by rw [fO_ (by decide), fO_ (by decide)]; exact a4) (fun _ => by rw [fO_ (by decide), fO_ (by decide)]; exact a5)) fun τ p => ?_
    show okc (RR (lkB tb388) (B388_71, [some (mR (some 80))], [], τ)) none _
    rw [e388_71]
    refine okc_s ?_
    cases hq : pWh t (tks t n) (iL 2147483647) k with
    | inl e =>
      rw [hq] at p
      exact ⟨rfr_t p.1 (rfr_n f1), p.2⟩
    | inr q =>
      rw [hq] at p
      obtain ⟨d1, d2, d3, d4, d5⟩ := p
      rw [if_neg n10] at d4 d5
      refine ⟨rfr_t (rfr_H d1) (rfr_n f1), d2, ⟨?_, ?_, ?_, d4, d5⟩, ⟨?_, (fun a => (a.elim (fun a => absurd rfl a) (fun a => absurd rfl a))), ?_⟩, ?_⟩
      · rw [d1.1 _ _ (by omega) (by omega), fO_ (by decide), fS_]
      · rw [d1.1 _ _ (by omega) (by omega), fO_ (by decide), fO_ (by decide)]; exact a2
      · rw [d1.1 _ _ (by omega) (by omega), fS_]
      · rw [d1.1 _ _ (by omega) (by omega), fO_ (by decide), fO_ (by decide)]; exact a6
      · rw [d1.1 _ _ (by omega) (by omega), fO_ (by decide), fO_ (by decide)]; exact a7
      · show lnR t n τ σ q.1.1 (wdO 133)
        have wz : wdO 133 = 1 := by decide
        rw [wz]
        exact lnR_q d3 f1
end RSV
