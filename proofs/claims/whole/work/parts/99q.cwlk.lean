/-! ===== the class's walk against the pure walk: a turn ===== -/
def CWe (σ : MS) (w : WK) : Prop := (gI σ 51 1 = yG w ∧ gI σ 51 2 = (yNn w : Int) ∧ gI σ 51 4 = w.2.2.2.1 ∧ gI σ 51 5 = w.2.2.2.2.1) ∧ KNc σ w.2.2.2.2.2
/-- before the first instruction no frames are told -/
def CWz (σ : MS) (C : Int) (w : WK) : Prop := ∃ y, CW σ C (w5 w y) ∧ (y = w.2.2.2.2.1 ∨ (yG w = 0 ∧ (if y < (sF (yS w) : Int) then (sF (yS w) : Int) else y) = w.2.2.2.2.1))
/-- the end of the walk -/
def fnC (σ τ : MS) (C f : Int) (w : WK) : Prop := cwq τ σ ∧ CWp τ C ∧ CWe τ w ∧ (¬ f = 0 → gI τ 51 0 = yA w ∧ gI τ 51 3 = 0) ∧ (f = 0 → gI τ 51 0 = gI σ 51 0 ∧ gI τ 51 3 = kL (yH w 0)) ∧ ∃ hc, gR τ 39 14 = some hc
section CWLK
variable {τ σ ρ : MS} {cf wf : Nat → Nat} {Dd : Nat → Bool} {hc sc q s k j a c cc : Nat} {w w' : WK} {C B n f i x2 : Int} {S S0 : ST} {E : EV} {p : Int → B64} {J : Int → Bool} {t : Int} {G : Int → Prop} {D : Nat → Int} {v : Option MV} {P : MS → Prop}
theorem CWz_c (h : CW σ C w) : CWz σ C w := ⟨w.2.2.2.2.1, h, Or.inl rfl⟩
theorem CWe_f (h : CWf σ w) : CWe σ w := ⟨h.1, h.2.2⟩
theorem fnC_t (h : fnC ρ τ C f w) (q : cwq ρ σ) (pn : PCN ρ C) (e : gI ρ 51 0 = gI σ 51 0) : fnC σ τ C f w := ⟨cwq_t h.1 q pn, h.2.1, h.2.2.1, h.2.2.2.1, fun z => ⟨(h.2.2.2.2.1 z).1.trans e, (h.2.2.2.2.1 z).2⟩, h.2.2.2.2.2⟩
theorem T29 {x1 x2 : Int} : MM 29 [mR (some 39), mI x1, mI x2] σ = some (some (mI x1), sI (sI σ 51 0 x2) 51 3 0) := by
  have g51 : ∀ ρ : MS, (Option.isSome (some 51) = true ∧ ab ρ 3 51 0) = True := fun ρ => by
    rw [g_51]
    exact eq_true (by decide)
  have g51b : ∀ ρ : MS, (Option.isSome (some 51) = true ∧ ab ρ 3 51 3) = True := fun ρ => by
    rw [g_51]
    exact eq_true (by decide)
  simp only [M29, e29_0, Option.getD_some, Option.bind_some, Option.toList_some, Option.toList_none, List.cons_append, List.nil_append, and_self, and_true, true_and, false_and, and_false, ite_self, not_true_eq_false, not_false_eq_true, reduceIte, Nat.reduceEqDiff, ab_I, ab_L, ab_R, ao_I, ao_L, ao_R, gL_sL, gI_sI, gR_sR, gI_sL, gI_sR, gL_sI, gL_sR, gR_sI, gR_sL, g51, g51b, Int.reduceToNat]
theorem fnC_f (h : CWp σ C) (h14 : ∃ hc, gR σ 39 14 = some hc) (he : CWe σ w) (hf : ¬ f = 0) : fnC σ (sI (sI σ 51 0 (yA w)) 51 3 0) C f w := by
  obtain ⟨po, pn, sc, h15⟩ := h
  have gi : ∀ q s, ¬ (q = 51 ∧ (s = 0 ∨ s = 3)) → gI (sI (sI σ 51 0 (yA w)) 51 3 0) q s = gI σ q s := fun q s h => by rw [gI_sI, if_neg (by omega), gI_sI, if_neg (by omega)]
  obtain ⟨q1, q2, q3⟩ := po_id (τ := sI (sI σ 51 0 (yA w)) 51 3 0) po (fun s _ => rfl) rfl
  obtain ⟨⟨e1, e2, e4, e5⟩, ek⟩ := he
  exact ⟨⟨fun q s _ p => ⟨gi q s (by omega), rfl, rfl⟩, fun _ _ => rfl, q3⟩, ⟨q1, q2 C pn, sc, h15⟩, ⟨⟨(gi _ _ (by omega)).trans e1, (gi _ _ (by omega)).trans e2, (gi _ _ (by omega)).trans e4, (gi _ _ (by omega)).trans e5⟩, KN_c (fun s => gi _ _ (by omega)) (fun s => rfl) ek⟩, fun _ => ⟨by rw [gI_sI, if_neg (by omega), gI_sI, if_pos ⟨rfl, rfl⟩], by rw [gI_sI, if_pos ⟨rfl, rfl⟩]⟩, fun z => absurd z hf, h14⟩
theorem cw_PX (I : INV dumB dumH E p id S0 G w D) (X : exI w) (XI : xI w) : PX (yS w) E (yT w) ∧ ∀ k, k < yNn w → PX (kS (yH w k)) E (yT w) := by
  obtain ⟨kb, lN, F0, FG, G4⟩ := inv_B I X
  obtain ⟨wf1, wf2, wf3⟩ := I.2.2.2.2.2
  obtain ⟨⟨x1, x2, x3⟩, ⟨x4, x5, x6⟩, x7, x8⟩ := X
  exact ⟨⟨wf1.1, x1, XI.1, by omega⟩, fun k hk => ⟨(wf2 k hk).1, (x2 k hk).1, XI.2.1 k hk, by omega⟩⟩
/-- an instruction of the walk -/
theorem L34i (hE : okE E) (hp : okP G p) (hG : ∀ x, G x → 0 ≤ x ∧ x < 200) (I : INV dumB dumH E p id S0 G w D) (X : exI w) (XI : xI w) (sE : SEc σ E p J cc) (h : CWz σ C w)
    (h1 : ¬ (insK E p w).1 = 0 → v = some (mI (insK E p w).1) ∧ ∀ τ, fnC σ τ C (insK E p w).1 (insK E p w).2.2 → P τ)
    (h2 : (insK E p w).1 = 0 → (insK E p w).2.1 = true → yM (insK E p w).2.2 = 0 → v = some (mI 0) ∧ ∀ τ, fnC σ τ C 0 (insK E p w).2.2 → P τ)
    (h3 : (insK E p w).1 = 0 → (insK E p w).2.1 = true → ¬ yM (insK E p w).2.2 = 0 → ∀ τ, cwq τ σ → gI τ 51 0 = gI σ 51 0 → CW τ C (popK (insK E p w).2.2) → okc (RR (lkB tb34) (B34_212, [some (mR (some 39)), some (mR (some cc)), some (mI 0), some (mI i), some (mI (yA w)), none], [], τ)) v P)
    (h4 : (insK E p w).1 = 0 → (insK E p w).2.1 = false → ∀ τ, cwq τ σ → gI τ 51 0 = gI σ 51 0 → CW τ C (insK E p w).2.2 → okc (RR (lkB tb34) (B34_212, [some (mR (some 39)), some (mR (some cc)), some (mI 0), some (mI i), some (mI (yA w)), none], [], τ)) v P) :
    okc (RR (lkB tb34) (B34_113, [some (mR (some 39)), some (mR (some cc)), some (mI x2), some (mI i), some (mI (yA w)), none], [], σ)) v P := by
  obtain ⟨kb, ⟨lN, N250, N1⟩, ⟨F0, FG, G4⟩⟩ := inv_B I X
  obtain ⟨y, ⟨cf, wf, Dd, hc, hx, hh⟩, hy⟩ := h
  have hx' := hx
  obtain ⟨df, ⟨po, pn, sc, h15⟩, hk, hw, ⟨l1, l2, l3⟩, h11, hf⟩ := hx'
  have wf1 := I.2.2.2.2.2.1
  obtain ⟨a0, a200⟩ := hG _ wf1.2.2.2
  obtain ⟨a, ea⟩ : ∃ a : Nat, yA w = (a : Int) := ⟨(yA w).toNat, by omega⟩
  have g51 : ∀ ρ : MS, (Option.isSome (some 51) = true ∧ ab ρ 3 51 1) = True := fun ρ => by
    rw [g_51]
    exact eq_true (by decide)
  have f1 : gI σ 51 1 = yG w := hf.1.1
  by_cases c : yG w = 4000
  · have ei := ins_g (E := E) (p := p) c
    rw [ei] at h1
    obtain ⟨v1, v2⟩ := h1 (show ¬ (12 : Int) = 0 by decide)
    refine okc_o (τ := sI (sI σ 51 0 (yA w)) 51 3 0) ?_ (v2 _ (fnC_f ⟨po, pn, sc, h15⟩ ⟨hc, l1⟩ ?_ (show ¬ (12 : Int) = 0 by decide)))
    · rw [v1]
      simp only [e34_113, e34_135, Option.getD_some, Option.bind_some, Option.toList_some, Option.toList_none, List.cons_append, List.nil_append, and_self, and_true, true_and, false_and, and_false, ite_self, not_true_eq_false, not_false_eq_true, reduceIte, Nat.reduceEqDiff, ab_I, ab_L, ab_R, ao_I, ao_L, ao_R, gL_sL, gI_sI, gR_sR, gI_sL, gI_sR, gL_sI, gL_sR, gR_sI, gR_sL, g51, Int.reduceToNat, f1, c, T29]
    · rcases hy with e | e
      · rw [e] at hf
        exact CWe_f hf
      · omega
  · have XX := X
    obtain ⟨⟨x1, x2', x3⟩, ⟨x4, x5, x6⟩, x7, x8⟩ := XX
    obtain ⟨PXs, _⟩ := cw_PX I X XI
    have e5 : (if y < (sF (yS w) : Int) then (sF (yS w) : Int) else y) = w.2.2.2.2.1 := by
      rcases hy with e | e
      · rw [e]
        exact if_neg (by omega)
      · exact e.2
    obtain ⟨σ1, tn, n1, n2, n3, n4, n5⟩ := cw_note (w := w) hx hh ea (by omega) PXs.1.1 e5 ⟨by omega, by omega⟩ ⟨F0, by omega⟩
    have pn1 := n4.2.1.2.1
    have s1 := SEc_q po pn n1 sE
    obtain ⟨p1, p2, p3, p4⟩ := hp (yA w) wf1.2.2.2
    have h15' : gR σ1 39 15 = some sc := (gR_r n3).trans h15
    obtain ⟨τ, ts, ⟨m1, m2, m3, m15⟩, m4⟩ := cw_stp (w := ntW w) n4 n5 s1 h15' PXs hE ea (by omega) p1 (fun z => by
      have := hG _ (p2 z)
      rw [ea] at this
      omega) (fun z1 z2 z3 => by
      have := hG _ (p4 z1 z2 z3)
      exact ⟨this.1, Int.lt_trans this.2 (by decide)⟩)
    have l1' : gR σ1 39 14 = some hc := (gR_r n3).trans l1
    have pnτ := m3.2.1.2.1
    have qτ : cwq τ σ := cwq_t m1 n1 pn1
    have e0 : gI τ 51 0 = gI σ 51 0 := m2.trans n2
    have s158 : RR (lkB tb34) (B34_113, [some (mR (some 39)), some (mR (some cc)), some (mI x2), some (mI i), some (mI (yA w)), none], [], σ) = RR (lkB tb34) (B34_158, [some (mR (some 39)), some (mR (some cc)), some (mI 0), some (mI i), some (mI (yA w)), none], [mI (stpJ E (yS w) (yA w) (p (yA w)) (p (yA w + 1)) (yT w)).1], τ) := by
      rw [← ea] at tn
      have ts : MM 240 [mR (some 40), mR (some hc), mR (some sc), mR (some cc)] σ1 = some (some (mI (stpJ E (yS w) (yA w) (p (yA w)) (p (yA w + 1)) (yT w)).1), τ) := ts
      simp only [e34_113, e34_142, Option.getD_some, Option.bind_some, Option.toList_some, Option.toList_none, List.cons_append, List.nil_append, and_self, and_true, true_and, false_and, and_false, ite_self, not_true_eq_false, not_false_eq_true, reduceIte, Nat.reduceEqDiff, ab_I, ab_L, ab_R, ao_I, ao_L, ao_R, gL_sL, gI_sI, gR_sR, gI_sL, gI_sR, gL_sI, gL_sR, gR_sI, gR_sL, g51, Int.reduceToNat, f1, c, tn, l1', h15', ts, not_false_eq_true]
    rw [s158]
    have m4 : (stpJ E (yS w) (yA w) (p (yA w)) (p (yA w + 1)) (yT w)).1 = 0 → gI τ 40 8 = (stpJ E (yS w) (yA w) (p (yA w)) (p (yA w + 1)) (yT w)).2.2.2 ∧ match (stpJ E (yS w) (yA w) (p (yA w)) (p (yA w + 1)) (yT w)).2.1, (stpJ E (yS w) (yA w) (p (yA w)) (p (yA w + 1)) (yT w)).2.2.1 with
      | some (n, S1), none => CSt τ hc S1 ∧ gI τ 40 4 = n ∧ gI τ 40 3 = 0
      | some (n, S1), some (g, S2) => (CSt τ hc S1 ∧ gI τ 40 4 = n) ∧ (gI τ 40 3 = 1 ∧ gI τ 40 5 = g ∧ CSt τ sc S2) ∧ gI τ sc 7 = yF w + 1 ∧ gR τ sc 6 = some (cf (yK w))
      | none, _ => gI τ 40 4 = -1 ∧ gI τ 40 3 = 0 ∧ gI τ hc 3 = (sF (yS w) : Int) := m4
    clear s158 ts
    have rs2 := fun n g S1 S2 => stp_2 (E := E) (S := yS w) (i := yA w) (w := p (yA w)) (w2 := p (yA w + 1)) (t := yT w) (n := n) (g := g) (S1 := S1) (S2 := S2)
    have nG : ∀ n : Int, (insK E p w).1 = 0 → (insK E p w).2.1 = false → yA (insK E p w).2.2 = n → 0 ≤ n := fun n z1 z2 z3 => by
      obtain ⟨D', I'⟩ := (ins_i dum_B dum_H hE (fun _ => ⟨rfl, rfl, rfl⟩) hp I z1).1 z2
      have := hG _ I'.2.2.2.2.2.1.2.2.2
      omega
    generalize er : stpJ E (yS w) (yA w) (p (yA w)) (p (yA w + 1)) (yT w) = r at m4 rs2 ⊢
    obtain ⟨rf, ra, rb, rt⟩ := r
    by_cases z : rf = 0
    · subst z
      obtain ⟨m8, m4⟩ := m4 rfl
      have m8 : gI τ 40 8 = rt := m8
      rw [m8] at m3
      have fin : ∀ (o : Option Rs) (x5 : Int), (RR (lkB tb34) (B34_158, [some (mR (some 39)), some (mR (some cc)), some (mI 0), some (mI i), some (mI (yA w)), none], [mI 0], τ) = RR (lkB tb34) (B34_203, [some (mR (some 39)), some (mR (some cc)), some (mI 0), some (mI i), some (mI (yA w)), some (mI 0)], [], τ)) → (∀ υ, MM 36 [mR (some 39)] τ = some (some (mI 1), υ) → okc (RR (lkB tb34) (B34_212, [some (mR (some 39)), some (mR (some cc)), some (mI 0), some (mI i), some (mI (yA w)), none], [], υ)) v P → okc (RR (lkB tb34) (B34_158, [some (mR (some 39)), some (mR (some cc)), some (mI 0), some (mI i), some (mI (yA w)), none], [mI 0], τ)) v P) := fun o x5 e υ t36 hh => by
        rw [e]
        simp only [e34_203, e34_207, Option.getD_some, Option.bind_some, Option.toList_some, Option.toList_none, List.cons_append, List.nil_append, and_self, and_true, true_and, false_and, and_false, ite_self, not_true_eq_false, not_false_eq_true, reduceIte, Nat.reduceEqDiff, ab_I, ab_L, ab_R, ao_I, ao_L, ao_R, gL_sL, gI_sI, gR_sR, gI_sL, gI_sR, gL_sI, gL_sR, gR_sI, gR_sL, t36, oneI]
        exact okc_q (by repeat (first | exact lq_nil | refine lq_cons (Or.inr rfl) ?_ | refine lq_cons (Or.inl rfl) ?_)) hh
      rcases ra with _ | ⟨n1, S1⟩
      · obtain ⟨m5, m6, m7⟩ := m4
        have ei := ins_e (E := E) (p := p) c er
        rw [ei] at h2 h3
        obtain ⟨g0, g1⟩ := cw_g0 (w := atW (ntW w) (yS w) (yA w) rt) m3 m5 m6 m7 x7 kb ⟨by decide, by decide⟩ ⟨by show 0 ≤ yF w + 1; omega, by show yF w + 1 ≤ 4000 + 4000; omega⟩
        have s203 : RR (lkB tb34) (B34_158, [some (mR (some 39)), some (mR (some cc)), some (mI 0), some (mI i), some (mI (yA w)), none], [mI 0], τ) = RR (lkB tb34) (B34_203, [some (mR (some 39)), some (mR (some cc)), some (mI 0), some (mI i), some (mI (yA w)), some (mI 0)], [], τ) := by
          simp only [e34_158, Option.getD_some, Option.bind_some, Option.toList_some, Option.toList_none, List.cons_append, List.nil_append, and_self, and_true, true_and, false_and, and_false, ite_self, not_true_eq_false, not_false_eq_true, reduceIte, Nat.reduceEqDiff, ab_I, ab_L, ab_R, ao_I, ao_L, ao_R, gL_sL, gI_sI, gR_sR, gI_sL, gI_sR, gL_sI, gL_sR, gR_sI, gR_sL, m6]
        by_cases m0 : yM w = 0
        · obtain ⟨v1, v2⟩ := h2 rfl rfl m0
          obtain ⟨υ, t36, b1, b2', b3, b4, b5, b6⟩ := g0 m0
          refine okc_o (τ := υ) ?_ (v2 υ ⟨cwq_t b1 qτ pnτ, b2', CWe_f b3, fun z => absurd rfl z, fun _ => ⟨b4.trans e0, b5⟩, b6⟩)
          rw [s203, v1]
          simp only [e34_203, e34_207, Option.getD_some, Option.bind_some, Option.toList_some, Option.toList_none, List.cons_append, List.nil_append, and_self, and_true, true_and, false_and, and_false, ite_self, not_true_eq_false, not_false_eq_true, reduceIte, Nat.reduceEqDiff, ab_I, ab_L, ab_R, ao_I, ao_L, ao_R, gL_sL, gI_sI, gR_sR, gI_sL, gI_sR, gL_sI, gL_sR, gR_sI, gR_sL, t36]
        · obtain ⟨υ, t36, b1, b2', b3⟩ := g1 m0
          exact fin none 0 s203 υ t36 (h3 rfl rfl m0 υ (cwq_t b1 qτ pnτ) (b2'.trans e0) b3)
      · rcases rb with _ | ⟨g, S2⟩
        · obtain ⟨m5, m6, m7⟩ := m4
          have ei := ins_1 (E := E) (p := p) c er
          have n0 := nG n1 (by rw [ei]) (by rw [ei]) (by rw [ei])
          rw [ei] at h4
          obtain ⟨υ, t36, b1, b2', b3⟩ := cw_g1 (w := atW (ntW w) (yS w) (yA w) rt) m3 m5 m6 n0 m7
          have s203 : RR (lkB tb34) (B34_158, [some (mR (some 39)), some (mR (some cc)), some (mI 0), some (mI i), some (mI (yA w)), none], [mI 0], τ) = RR (lkB tb34) (B34_203, [some (mR (some 39)), some (mR (some cc)), some (mI 0), some (mI i), some (mI (yA w)), some (mI 0)], [], τ) := by
            simp only [e34_158, Option.getD_some, Option.bind_some, Option.toList_some, Option.toList_none, List.cons_append, List.nil_append, and_self, and_true, true_and, false_and, and_false, ite_self, not_true_eq_false, not_false_eq_true, reduceIte, Nat.reduceEqDiff, ab_I, ab_L, ab_R, ao_I, ao_L, ao_R, gL_sL, gI_sI, gR_sR, gI_sL, gI_sR, gL_sI, gL_sR, gR_sI, gR_sL, m7]
          exact fin none 0 s203 υ t36 (h4 rfl rfl υ (cwq_t b1 qτ pnτ) (b2'.trans e0) b3)
        · obtain ⟨⟨m5, m6⟩, ⟨m7, m9, m10⟩, m11, m12⟩ := m4
          have g11 : gI τ 39 11 = (yM w : Int) := m3.2.2.2.2.2.1
          by_cases m60 : yM w = 60
          · have ei := ins_6 (E := E) (p := p) c m60 er
            rw [ei] at h1
            obtain ⟨v1, v2⟩ := h1 (show ¬ (12 : Int) = 0 by decide)
            have ce := CWe_f m3.2.2.2.2.2.2
            have fc := fnC_f (f := 12) (w := ((yS w, yA w, yK w, yF w + 1, yG w + 1, yT w), w.2.1, w.2.2.1, w.2.2.2.1, w.2.2.2.2.1, xK w)) m3.2.1 ⟨_, m3.2.2.2.2.1.1⟩ ce (by decide)
            refine okc_o (τ := sI (sI τ 51 0 (yA w)) 51 3 0) ?_ (v2 _ (fnC_t fc qτ pnτ e0))
            rw [v1]
            have g60 : gI τ 39 11 = 60 := by rw [g11, m60]; rfl
            simp only [e34_158, e34_184, e34_197, e34_202, Option.getD_some, Option.bind_some, Option.toList_some, Option.toList_none, List.cons_append, List.nil_append, and_self, and_true, true_and, false_and, and_false, ite_self, not_true_eq_false, not_false_eq_true, reduceIte, Nat.reduceEqDiff, ab_I, ab_L, ab_R, ao_I, ao_L, ao_R, gL_sL, gI_sI, gR_sR, gI_sL, gI_sR, gL_sI, gL_sR, gR_sI, gR_sL, m7, g60, oneI, T29]
          · have ei := ins_2 (E := E) (p := p) c m60 er
            have n0 := nG n1 (by rw [ei]) (by rw [ei]) (by rw [ei])
            rw [ei] at h4
            have m61 : yM w < 60 := by omega
            have fS := (rs2 n1 g S1 S2 rfl rfl).1
            obtain ⟨υ, t36, b1, b2', b3⟩ := cw_g2 (w := atW (ntW w) (yS w) (yA w) rt) m3 m15 m5 m6 n0 m7 m9 m10 m11 m12 m61 (by show (sF S1 : Int) ≤ w.2.2.2.2.1; omega)
            have s203 : RR (lkB tb34) (B34_158, [some (mR (some 39)), some (mR (some cc)), some (mI 0), some (mI i), some (mI (yA w)), none], [mI 0], τ) = RR (lkB tb34) (B34_203, [some (mR (some 39)), some (mR (some cc)), some (mI 0), some (mI i), some (mI (yA w)), some (mI 0)], [], τ) := by
              have n60 : ¬ gI τ 39 11 = 60 := by rw [g11]; omega
              simp only [e34_158, Option.getD_some, Option.bind_some, Option.toList_some, Option.toList_none, List.cons_append, List.nil_append, and_self, and_true, true_and, false_and, and_false, ite_self, not_true_eq_false, not_false_eq_true, reduceIte, Nat.reduceEqDiff, ab_I, ab_L, ab_R, ao_I, ao_L, ao_R, gL_sL, gI_sI, gR_sR, gI_sL, gI_sR, gL_sI, gL_sR, gR_sI, gR_sL, m7, n60, oneI, not_false_eq_true]
            exact fin none 0 s203 υ t36 (h4 rfl rfl υ (cwq_t b1 qτ pnτ) (b2'.trans e0) b3)
    · have zf : ¬ (stpJ E (yS w) (yA w) (p (yA w)) (p (yA w + 1)) (yT w)).1 = 0 := by rw [er]; exact z
      have ei := ins_f (E := E) (p := p) c zf
      rw [er] at ei
      rw [ei] at h1
      obtain ⟨v1, v2⟩ := h1 z
      have ce := CWe_f m3.2.2.2.2.2.2
      have fc := fnC_f (f := rf) (w := ((yS w, yA w, yK w, yF w + 1, yG w + 1, yT w), w.2.1, w.2.2.1, w.2.2.2.1, w.2.2.2.2.1, xK w)) m3.2.1 ⟨_, m3.2.2.2.2.1.1⟩ ce z
      refine okc_o (τ := sI (sI τ 51 0 (yA w)) 51 3 0) ?_ (v2 _ (fnC_t fc qτ pnτ e0))
      rw [v1]
      have z' : ¬ rf = 0 := z
      simp only [e34_158, e34_184, e34_197, e34_202, Option.getD_some, Option.bind_some, Option.toList_some, Option.toList_none, List.cons_append, List.nil_append, and_self, and_true, true_and, false_and, and_false, ite_self, not_true_eq_false, not_false_eq_true, reduceIte, Nat.reduceEqDiff, ab_I, ab_L, ab_R, ao_I, ao_L, ao_R, gL_sL, gI_sI, gR_sR, gI_sL, gI_sR, gL_sI, gL_sR, gR_sI, gR_sL, z', not_false_eq_true, T29]
end CWLK
