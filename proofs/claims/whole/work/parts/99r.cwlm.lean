/-! ===== the class's walk against the pure walk, whole ===== -/
section CWLM
variable {τ σ ρ : MS} {cf wf : Nat → Nat} {Dd : Nat → Bool} {hc sc q s k j a c cc : Nat} {w w' : WK} {C B n f x2 : Int} {S S0 : ST} {E : EV} {p : Int → B64} {J : Int → Bool} {t : Int} {G : Int → Prop} {D : Nat → Int} {v : Option MV} {P : MS → Prop}
/-- pairs are noted while it is looked for what covers -/
theorem vc_cwq (po : POOL σ) (h : vc τ σ) : cwq τ σ ∧ (POOL τ ∧ (∀ C, PCN σ C → PCN τ C)) := by
  have rr : ∀ q s, gR τ q s = gR σ q s := fun q s => gR_r h.2.2
  obtain ⟨q1, q2, q3⟩ := po_id po (τ := τ) (fun s _ => by
    unfold slR
    rw [rr, rr, rr, rr]) (by rw [h.2.2])
  exact ⟨⟨fun q s _ p => ⟨h.1 q s (by omega), h.2.1 q s, rr q s⟩, fun q _ => kd_r3 (by rw [h.2.2]) q, q3⟩, q1, q2⟩
theorem vc_CWx (h : vc τ σ) (H : CWx σ C cf wf Dd hc w) : CWx τ C cf wf Dd hc w := by
  obtain ⟨df, ⟨po, pn, sc, h15⟩, ⟨k1, ⟨k2, k3⟩, k4, k5⟩, hw, ⟨l1, l2, l3⟩, h11, hf⟩ := H
  obtain ⟨_, q1, q2⟩ := vc_cwq po h
  have rr : ∀ q s, gR τ q s = gR σ q s := fun q s => gR_r h.2.2
  have ch := (po.1 0 hc (by decide) (sR_z.trans l1)).2
  unfold isCl at ch
  have N250 := df.2.1.2.1
  have M60 := df.2.1.2.2
  have sm : ∀ s c, s < 312 → slR σ s = some c → same τ σ c := fun s c hs e => by
    have y := (po.1 s c hs e).2
    unfold isCl at y
    exact ⟨fun q s q1 q2 => ⟨h.1 q s (by omega), h.2.1 q s, rr q s⟩, fun z => st_r3 (by rw [h.2.2]) z⟩
  exact ⟨df, ⟨q1, q2 C pn, sc, (rr _ _).trans h15⟩, ⟨fun k hk => (rr _ _).trans (k1 k hk), ⟨vc_KC h k2, vc_KF h k3⟩, k4, fun a ha => by
    rw [rr, rr]
    exact k5 a ha⟩, CWw_s hw (fun j hj => sm (252 + j) _ (by omega) (sR_wt.trans (hw j hj).1.1)) (fun j _ => rr _ _), ⟨(rr _ _).trans l1, (h.1 _ _ (by omega)).trans l2, (rr _ _).trans l3⟩, (h.1 _ _ (by omega)).trans h11, CWf_q (fun s _ => h.1 _ _ (by omega)) (h.1 _ _ (by omega)) (fun s => h.1 _ _ (by omega)) (fun s => h.2.1 _ _) hf⟩
/-- it is done just where no way waits -/
theorem done_iff (df : dfI w) (hk : k < yNn w) (hD : Dd k = true ↔ ¬ k ∈ cha (yH w) (yK w)) : (Dd k = true) ↔ ¬ 0 < kW (yH w k) := by
  obtain ⟨d1, d2, d3, d4, d5⟩ := df
  have e := d5 k hk
  rw [hD]
  by_cases z : k ∈ cha (yH w) (yK w)
  · rw [if_pos z] at e
    have := cnt_p (W := yW w) (yM w) k
    exact ⟨fun q => absurd z q, fun q => absurd (by omega : 0 < kW (yH w k)) q⟩
  · rw [if_neg z, cnt_0 d1 _ _ d2.1 d3 k z] at e
    exact ⟨fun _ => by omega, fun _ => z⟩
/-- what is met -/
theorem L34m (hG : ∀ x, G x → 0 ≤ x ∧ x < 200) (I : INV dumB dumH E p id S0 G w D) (X : exI w) (XI : xI w) (sE : SEc σ E p J cc) (hz : CWz σ C w) (first : Bool) (hf1 : first = false → CW σ C w) {i : Nat} (hi : i < 1000000) {m : Int × Bool × WK} (em : m = (if J (yA w) = true ∧ first = false then meeK w else (0, false, w)))
    (h1 : ¬ m.1 = 0 → v = some (mI m.1) ∧ ∀ τ, fnC σ τ C m.1 m.2.2 → P τ)
    (h2 : m.1 = 0 → m.2.1 = true → yM m.2.2 = 0 → v = some (mI 0) ∧ ∀ τ, fnC σ τ C 0 m.2.2 → P τ)
    (h3 : m.1 = 0 → m.2.1 = true → ¬ yM m.2.2 = 0 → ∀ τ, cwq τ σ → gI τ 51 0 = gI σ 51 0 → CW τ C (popK m.2.2) → okc (RR (lkB tb34) (B34_212, [some (mR (some 39)), some (mR (some cc)), some (mI (b2 (first = true))), some (mI (i : Int)), some (mI (yA w)), none], [], τ)) v P)
    (h4 : m.1 = 0 → m.2.1 = false → ∀ τ, cwq τ σ → gI τ 51 0 = gI σ 51 0 → CWz τ C m.2.2 → okc (RR (lkB tb34) (B34_113, [some (mR (some 39)), some (mR (some cc)), some (mI (b2 (first = true))), some (mI (i : Int)), some (mI (yA w)), none], [], τ)) v P) :
    okc (RR (lkB tb34) (B34_15, [some (mR (some 39)), some (mR (some cc)), some (mI (b2 (first = true))), some (mI (i : Int)), none, none], [], σ)) v P := by
  obtain ⟨kb, ⟨lN, N250, N1⟩, ⟨F0, FG, G4⟩⟩ := inv_B I X
  have wf1 := I.2.2.2.2.2.1
  obtain ⟨a0, a200⟩ := hG _ wf1.2.2.2
  obtain ⟨a, ea⟩ : ∃ a : Nat, yA w = (a : Int) := ⟨(yA w).toNat, by omega⟩
  have ai : a < 200 := by omega
  have ni : ¬ 1000000 ≤ (i : Int) := by omega
  have g56 : (Option.isSome (some 56) = true ∧ ab σ 2 56 (a : Int)) = True := by
    rw [g_56]
    exact eq_true (by omega)
  have hJ := sE.2.2.2.2 a ai
  rw [← ea] at hJ
  obtain ⟨PXs, PXk⟩ := cw_PX I X XI
  by_cases cJ : J (yA w) = true ∧ first = false
  · rw [if_pos cJ] at em
    obtain ⟨j, ft⟩ := cJ
    have h := hf1 ft
    obtain ⟨cf, wf, Dd, hc, hx, hh⟩ := h
    have hx' := hx
    obtain ⟨df, ⟨po, pn, sc, h15⟩, ⟨k1, ⟨k2, k3⟩, k4, k5⟩, hw, ⟨l1, l2, l3⟩, h11, hf⟩ := hx'
    have sh := po.1 0 hc (by decide) (sR_z.trans l1)
    have ao8 : ao σ 8 (some hc) = True := aoS sh.1
    have g5 : gI σ hc 5 = (a : Int) := hh.2.trans ea
    have n56 := hJ.mp j
    have nf : ¬ first = true := by rw [ft]; decide
    obtain ⟨ρ, t37, qv⟩ := T37 (t := yT w) ai (cl_s sh.2) PXk PXs k2 k3 (k5 a ai).1 l1 sh.1 hh.1
    have xρ := vc_CWx qv hx
    have hρ : CWh ρ w hc := ⟨vc_CSt (cl_s sh.2) qv hh.1, (qv.1 _ _ (by have := sh.2; unfold isCl at this; omega)).trans hh.2⟩
    obtain ⟨wρ, poρ, pnρ'⟩ := vc_cwq po qv
    have pnρ := pnρ' C pn
    have e0 : gI ρ 51 0 = gI σ 51 0 := qv.1 _ _ (by decide)
    have fe : ((List.range (yNn w)).find? fun j => decide (kA (yH w j) = (a : Int)) && covS (kS (yH w j)) (yS w)) = metK w := by
      unfold metK
      rw [ea]
    rw [fe] at t37
    have s50 : RR (lkB tb34) (B34_15, [some (mR (some 39)), some (mR (some cc)), some (mI (b2 (first = true))), some (mI (i : Int)), none, none], [], σ) = RR (lkB tb34) (B34_50, [some (mR (some 39)), some (mR (some cc)), some (mI 0), some (mI (i : Int)), some (mI (a : Int)), none], [mR ((metK w).map cf)], ρ) := by
      rw [b2_no nf]
      simp only [e34_15, Option.getD_some, Option.bind_some, Option.toList_some, Option.toList_none, List.cons_append, List.nil_append, and_self, and_true, true_and, false_and, and_false, ite_self, not_true_eq_false, not_false_eq_true, reduceIte, Nat.reduceEqDiff, ab_I, ab_L, ab_R, ao_I, ao_L, ao_R, gL_sL, gI_sI, gR_sR, gI_sL, gI_sR, gL_sI, gL_sR, gR_sI, gR_sL, ni, l1, ao8, g5, g56, Int.toNat_natCast, n56, t37, not_true_eq_false, eq_false n56]
    rw [s50]
    rw [b2_no nf] at h3 h4
    rw [ea] at h3 h4
    have c7 := xρ.2.2.2.2.2.2
    unfold meeK at em
    cases em' : metK w with
    | some k =>
      rw [em'] at em
      have kN : k < yNn w := by
        unfold metK at em'
        exact List.mem_range.mp (List.mem_of_find?_eq_some em')
      obtain ⟨⟨y1, y1'⟩, y2, ⟨y5, y7, y9, y10⟩, y6⟩ := xρ.2.2.1.2.1.1 k kN
      have aok : ao ρ 8 (some (cf k)) = True := aoS y1
      have dn := done_iff df kN (k4 k kN)
      by_cases kw : 0 < kW (yH w k)
      · have em : m = (11, false, w) := em.trans (if_pos kw)
        rw [em] at h1
        obtain ⟨v1, v2⟩ := h1 (show ¬ (11 : Int) = 0 by decide)
        have d0 : gI ρ (cf k) 10 = 0 := by
          rw [y10, if_neg (fun z => dn.mp z kw)]
        have fc := fnC_f (f := 11) (w := w) xρ.2.1 ⟨_, xρ.2.2.2.2.1.1⟩ (CWe_f c7) (by decide)
        rw [ea] at fc
        refine okc_o (τ := sI (sI ρ 51 0 (a : Int)) 51 3 0) ?_ (v2 _ (fnC_t fc wρ pnρ e0))
        rw [v1]
        show RR (lkB tb34) (B34_50, [some (mR (some 39)), some (mR (some cc)), some (mI 0), some (mI (i : Int)), some (mI (a : Int)), none], [mR (some (cf k))], ρ) = _
        have i1 : (Option.isSome (some (cf k)) = false) = False := eq_false (show ¬ true = false by decide)
        simp only [e34_50, e34_73, Option.getD_some, Option.bind_some, Option.toList_some, Option.toList_none, List.cons_append, List.nil_append, and_self, and_true, true_and, false_and, and_false, ite_self, not_true_eq_false, not_false_eq_true, reduceIte, Nat.reduceEqDiff, ab_I, ab_L, ab_R, ao_I, ao_L, ao_R, gL_sL, gI_sI, gR_sR, gI_sL, gI_sR, gL_sI, gL_sR, gR_sI, gR_sL, i1, aok, d0, not_true_eq_false, T29]
      · have em : m = (0, true, (w.1, (yNn w, endK (yH w) (yK w) (yF w + kL (yH w k))), w.2.2)) := em.trans (if_neg kw)
        rw [em] at h2 h3
        have d1 : gI ρ (cf k) 10 = 1 := by
          rw [y10, if_pos (dn.mpr kw)]
        obtain ⟨b1, b2', b3, b4⟩ := kb k kN
        have i1 : (Option.isSome (some (cf k)) = false) = False := eq_false (show ¬ true = false by decide)
        show okc (RR (lkB tb34) (B34_50, [some (mR (some 39)), some (mR (some cc)), some (mI 0), some (mI (i : Int)), some (mI (a : Int)), none], [mR (some (cf k))], ρ)) v P
        by_cases m0 : yM w = 0
        · obtain ⟨v1, v2⟩ := h2 rfl rfl m0
          obtain ⟨υ, t39, q1, q2, q3, q4, q5, q6⟩ := cw_e0 (n := kL (yH w k)) xρ m0 kb ⟨by decide, by decide⟩ (by omega)
          refine okc_o (τ := υ) ?_ (v2 υ ⟨cwq_t q1 wρ pnρ, q2, CWe_f q3, fun z => absurd rfl z, fun _ => ⟨q4.trans e0, q5⟩, _, q6⟩)
          rw [v1]
          simp only [e34_50, e34_83, Option.getD_some, Option.bind_some, Option.toList_some, Option.toList_none, List.cons_append, List.nil_append, and_self, and_true, true_and, false_and, and_false, ite_self, not_true_eq_false, not_false_eq_true, reduceIte, Nat.reduceEqDiff, ab_I, ab_L, ab_R, ao_I, ao_L, ao_R, gL_sL, gI_sI, gR_sR, gI_sL, gI_sR, gL_sI, gL_sR, gR_sI, gR_sL, i1, aok, d1, oneI, y9, t39, not_true_eq_false, not_false_eq_true]
        · obtain ⟨mm, e2⟩ : ∃ mm, yM w = mm + 1 := ⟨yM w - 1, by omega⟩
          obtain ⟨υ, t39, q1, q2, q3⟩ := cw_e1 (n := kL (yH w k)) xρ e2 kb ⟨by decide, by decide⟩ (by omega)
          have hh3 := h3 rfl rfl m0 υ (cwq_t q1 wρ pnρ) (q2.trans e0) q3
          simp only [e34_50, e34_83, Option.getD_some, Option.bind_some, Option.toList_some, Option.toList_none, List.cons_append, List.nil_append, and_self, and_true, true_and, false_and, and_false, ite_self, not_true_eq_false, not_false_eq_true, reduceIte, Nat.reduceEqDiff, ab_I, ab_L, ab_R, ao_I, ao_L, ao_R, gL_sL, gI_sI, gR_sR, gI_sL, gI_sR, gL_sI, gL_sR, gR_sI, gR_sL, i1, aok, d1, oneI, y9, t39, not_true_eq_false, not_false_eq_true]
          exact okc_q (by repeat (first | exact lq_nil | refine lq_cons (Or.inr rfl) ?_ | refine lq_cons (Or.inl rfl) ?_)) hh3
    | none =>
      rw [em'] at em
      have g51 : (Option.isSome (some 51) = true ∧ ab ρ 3 51 2) = True := by
        rw [g_51]
        exact eq_true (by decide)
      have f2 : gI ρ 51 2 = (yNn w : Int) := c7.1.2.1
      show okc (RR (lkB tb34) (B34_50, [some (mR (some 39)), some (mR (some cc)), some (mI 0), some (mI (i : Int)), some (mI (a : Int)), none], [mR none], ρ)) v P
      by_cases n250 : yNn w = 250
      · have em : m = (12, false, w) := em.trans (if_pos n250)
        rw [em] at h1
        obtain ⟨v1, v2⟩ := h1 (show ¬ (12 : Int) = 0 by decide)
        have fc := fnC_f (f := 12) (w := w) xρ.2.1 ⟨_, xρ.2.2.2.2.1.1⟩ (CWe_f c7) (by decide)
        rw [ea] at fc
        refine okc_o (τ := sI (sI ρ 51 0 (a : Int)) 51 3 0) ?_ (v2 _ (fnC_t fc wρ pnρ e0))
        rw [v1]
        have f250 : gI ρ 51 2 = 250 := by rw [f2, n250]; rfl
        simp only [e34_50, e34_108, Option.getD_some, Option.bind_some, Option.toList_some, Option.toList_none, List.cons_append, List.nil_append, and_self, and_true, true_and, false_and, and_false, ite_self, not_true_eq_false, not_false_eq_true, reduceIte, Nat.reduceEqDiff, ab_I, ab_L, ab_R, ao_I, ao_L, ao_R, gL_sL, gI_sI, gR_sR, gI_sL, gI_sR, gL_sI, gL_sR, gR_sI, gR_sL, Option.isSome_none, g51, Int.reduceToNat, f250, not_true_eq_false, T29]
      · have em : m = (0, false, ((yS w, yA w, yNn w, 0, yG w, yT w), (yNn w + 1, upK (yH w) (yNn w) (yS w, yA w, (yK w : Int), yF w, 1, 0)), w.2.2)) := em.trans (if_neg n250)
        rw [em] at h4
        obtain ⟨υ, t38, q1, q2, q3⟩ := cw_keep xρ hρ (by omega) kb PXs.1.1 PXs.1.2.2.2.2.2.1 ⟨a0, a200⟩
        have nf2 : ¬ gI ρ 51 2 = 250 := by rw [f2]; omega
        have hh4 := h4 rfl rfl υ (cwq_t q1 wρ pnρ) (q2.trans e0) (CWz_c q3)
        simp only [e34_50, Option.getD_some, Option.bind_some, Option.toList_some, Option.toList_none, List.cons_append, List.nil_append, and_self, and_true, true_and, false_and, and_false, ite_self, not_true_eq_false, not_false_eq_true, reduceIte, Nat.reduceEqDiff, ab_I, ab_L, ab_R, ao_I, ao_L, ao_R, gL_sL, gI_sI, gR_sR, gI_sL, gI_sR, gL_sI, gL_sR, gR_sI, gR_sL, Option.isSome_none, g51, Int.reduceToNat, nf2, not_false_eq_true, t38]
        exact okc_q (by repeat (first | exact lq_nil | refine lq_cons (Or.inr rfl) ?_ | refine lq_cons (Or.inl rfl) ?_)) hh4
  · rw [if_neg cJ] at em
    rw [em] at h4
    have hz' := hz
    obtain ⟨y, ⟨cf, wf, Dd, hc, hx, hh⟩, hy⟩ := hz'
    obtain ⟨df, ⟨po, pn, sc, h15⟩, hk, hw, ⟨l1, l2, l3⟩, h11, hf⟩ := hx
    have sh := po.1 0 hc (by decide) (sR_z.trans l1)
    have ao8 : ao σ 8 (some hc) = True := aoS sh.1
    have g5 : gI σ hc 5 = (a : Int) := hh.2.trans ea
    have s113 : RR (lkB tb34) (B34_15, [some (mR (some 39)), some (mR (some cc)), some (mI (b2 (first = true))), some (mI (i : Int)), none, none], [], σ) = RR (lkB tb34) (B34_113, [some (mR (some 39)), some (mR (some cc)), some (mI (b2 (first = true))), some (mI (i : Int)), some (mI (a : Int)), none], [], σ) := by
      by_cases j : J (yA w) = true
      · have ft : first = true := by
          cases hf : first with
          | true => rfl
          | false => exact absurd ⟨j, hf⟩ cJ
        rw [b2_yes ft]
        simp only [e34_15, Option.getD_some, Option.bind_some, Option.toList_some, Option.toList_none, List.cons_append, List.nil_append, and_self, and_true, true_and, false_and, and_false, ite_self, not_true_eq_false, not_false_eq_true, reduceIte, Nat.reduceEqDiff, ab_I, ab_L, ab_R, ao_I, ao_L, ao_R, gL_sL, gI_sI, gR_sR, gI_sL, gI_sR, gL_sI, gL_sR, gR_sI, gR_sL, ni, l1, ao8, g5, oneI, not_false_eq_true]
      · have n56 : gI σ 56 a = 0 := Decidable.byContradiction fun z => j (hJ.mpr z)
        cases hf : first with
        | true =>
          rw [b2_yes rfl]
          simp only [e34_15, Option.getD_some, Option.bind_some, Option.toList_some, Option.toList_none, List.cons_append, List.nil_append, and_self, and_true, true_and, false_and, and_false, ite_self, not_true_eq_false, not_false_eq_true, reduceIte, Nat.reduceEqDiff, ab_I, ab_L, ab_R, ao_I, ao_L, ao_R, gL_sL, gI_sI, gR_sR, gI_sL, gI_sR, gL_sI, gL_sR, gR_sI, gR_sL, ni, l1, ao8, g5, oneI, not_false_eq_true]
        | false =>
          rw [b2_no (by decide)]
          simp only [e34_15, Option.getD_some, Option.bind_some, Option.toList_some, Option.toList_none, List.cons_append, List.nil_append, and_self, and_true, true_and, false_and, and_false, ite_self, not_true_eq_false, not_false_eq_true, reduceIte, Nat.reduceEqDiff, ab_I, ab_L, ab_R, ao_I, ao_L, ao_R, gL_sL, gI_sI, gR_sR, gI_sL, gI_sR, gL_sI, gL_sR, gR_sI, gR_sL, ni, l1, ao8, g5, g56, Int.toNat_natCast, n56, not_true_eq_false]
    rw [s113, ← ea]
    exact h4 rfl rfl σ (cwq_r σ) rfl hz
/-- the walk, from its second half on -/
theorem L34 (hE : okE E) (hp : okP G p) (hG : ∀ x, G x → 0 ≤ x ∧ x < 200) : ∀ (n : Nat) (first : Bool) (i : Nat) (w w' : WK) (D : Nat → Int) (σ : MS) (f : Int), INV dumB dumH E p id S0 G w D → exI w → xI w → SEc σ E p J cc → CWz σ C w → (first = false → CW σ C w) → (i : Int) + leftK w ≤ 900000 → wlkK E p J n first w = some (f, w') → okc (RR (lkB tb34) (B34_15, [some (mR (some 39)), some (mR (some cc)), some (mI (b2 (first = true))), some (mI (i : Int)), none, none], [], σ)) (some (mI f)) (fun τ => fnC σ τ C f w') := by
  intro n
  induction n with
  | zero => intro first i w w' D σ f _ _ _ _ _ _ _ h; cases h
  | succ n ih =>
    intro first i w w' D σ f I X XI sE hC hC1 hi h
    have ei : itrK E p J first w = (let m := if J (yA w) = true ∧ first = false then meeK w else (0, false, w)
        if ¬ m.1 = 0 then (m.1, false, m.2.2)
        else
          let s := if m.2.1 = true then (0, true, m.2.2) else insK E p m.2.2
          if ¬ s.1 = 0 then (s.1, false, s.2.2)
          else if s.2.1 = true then (if yM s.2.2 = 0 then (0, true, s.2.2) else (0, false, popK s.2.2))
          else (0, false, s.2.2)) := rfl
    have gi := itr_i (J := J) (first := first) dum_B dum_H hE (fun _ => ⟨rfl, rfl, rfl⟩) hp I
    have il := itr_l (E := E) (p := p) (J := J) (w := w) (first := first) (inv_B I X).2.2.2.2
    have l0 : 0 ≤ leftK w := by
      have := (inv_B I X).2.2.2.2
      unfold leftK
      omega
    have pnσ : PCN σ C := by
      obtain ⟨y, ⟨cf, wf, Dd, hc, hx, hh⟩, hy⟩ := hC
      exact hx.2.1.2.1
    have poσ : POOL σ := by
      obtain ⟨y, ⟨cf, wf, Dd, hc, hx, hh⟩, hy⟩ := hC
      exact hx.2.1.1
    obtain ⟨m, em⟩ : ∃ m, m = (if J (yA w) = true ∧ first = false then meeK w else (0, false, w)) := ⟨_, rfl⟩
    have mx : m.1 = 0 → m.2.1 = false → (∃ D, INV dumB dumH E p id S0 G m.2.2 D) ∧ exI m.2.2 ∧ xI m.2.2 ∧ yA m.2.2 = yA w := fun z1 z2 => by
      by_cases c : J (yA w) = true ∧ first = false
      · rw [if_pos c] at em
        rw [em] at z1 z2 ⊢
        obtain ⟨q1, q2, q3, q4, q5⟩ := (mee_x X (by have := (inv_B I X).2.2; omega) z1).1 z2
        exact ⟨(mee_i I z1).1 z2, q1, (mee_xi XI z1).1 z2, q4⟩
      · rw [if_neg c] at em
        rw [em]
        exact ⟨⟨D, I⟩, X, XI, rfl⟩
    have mp : m.1 = 0 → m.2.1 = true → ¬ yM m.2.2 = 0 → (∃ D, INV dumB dumH E p id S0 G (popK m.2.2) D) ∧ exI (popK m.2.2) ∧ xI (popK m.2.2) := fun z1 z2 z3 => by
      by_cases c : J (yA w) = true ∧ first = false
      · rw [if_pos c] at em
        rw [em] at z1 z2 z3 ⊢
        exact ⟨((mee_i I z1).2 z2).2 z3, (mee_x X (by have := (inv_B I X).2.2; omega) z1).2 z2 z3, (mee_xi XI z1).2 z2 z3⟩
      · rw [if_neg c] at em
        rw [em] at z2
        cases z2
    rw [← em] at ei
    simp only at ei
    unfold wlkK at h
    -- the next turn
    have nxt : ∀ (τ : MS) (w1 : WK), itrK E p J first w = (0, false, w1) → (∃ D, INV dumB dumH E p id S0 G w1 D) → exI w1 → xI w1 → cwq τ σ → gI τ 51 0 = gI σ 51 0 → CW τ C w1 → okc (RR (lkB tb34) (B34_212, [some (mR (some 39)), some (mR (some cc)), some (mI 0), some (mI (i : Int)), some (mI (yA w)), none], [], τ)) (some (mI f)) (fun τ => fnC σ τ C f w') := fun τ w1 e I1 X1 XI1 q e0 c1 => by
      have l := il (by rw [e]) (by rw [e]; show ¬ false = true; decide)
      rw [e] at h l
      have h : wlkK E p J n false w1 = some (f, w') := h
      have l2 : leftK w1 < leftK w := l.2
      obtain ⟨D1, I1⟩ := I1
      have pnτ : PCN τ C := by
        obtain ⟨cf, wf, Dd, hc, hx, hh⟩ := c1
        exact hx.2.1.2.1
      have t := ih false (i + 1) w1 w' D1 τ f I1 X1 XI1 (SEc_q poσ pnσ q sE) (CWz_c c1) (fun _ => c1) (by omega) h
      rw [b2_no (p := false = true) (by decide)] at t
      have iw : w32 ((i : Int) + 1) = ((i + 1 : Nat) : Int) := w32_i (by omega) (by omega)
      simp only [e34_212, iw]
      exact okc_q (by repeat (first | exact lq_nil | refine lq_cons (Or.inr rfl) ?_ | refine lq_cons (Or.inl rfl) ?_)) (okc_m t fun τ' z => fnC_t z q pnτ e0)
    have li : i < 1000000 := by omega
    refine L34m hG I X XI sE hC first hC1 li em (fun z => ?_) (fun z1 z2 z3 => ?_) (fun z1 z2 z3 τ q e0 c1 => ?_) (fun z1 z2 τ q e0 c1 => ?_)
    · rw [if_pos z] at ei
      rw [ei, if_pos z] at h
      cases h
      exact ⟨rfl, fun τ y => y⟩
    · rw [if_neg (not_not_intro z1), if_pos z2, if_neg (not_not_intro rfl), if_pos rfl, if_pos z3] at ei
      rw [ei] at h
      have h : some ((0 : Int), m.2.2) = some (f, w') := h
      cases h
      exact ⟨rfl, fun τ y => y⟩
    · rw [if_neg (not_not_intro z1), if_pos z2, if_neg (not_not_intro rfl), if_pos rfl, if_neg z3] at ei
      have nf : ¬ first = true := fun ft => by
        rw [if_neg (fun y => by rw [ft] at y; exact Bool.noConfusion y.2)] at em
        rw [em] at z2
        cases z2
      rw [b2_no nf]
      obtain ⟨y1, y2, y3⟩ := mp z1 z2 z3
      exact nxt τ _ ei y1 y2 y3 q e0 c1
    · obtain ⟨⟨D1, I1⟩, X1, XI1, ea⟩ := mx z1 z2
      rw [if_neg (not_not_intro z1), if_neg (show ¬ m.2.1 = true by rw [z2]; decide)] at ei
      have pnτ : PCN τ C := by
        obtain ⟨y, ⟨cf, wf, Dd, hc, hx, hh⟩, hy⟩ := c1
        exact hx.2.1.2.1
      rw [← ea] at nxt ⊢
      have ok1 := I1.2.2.2.2.2.1
      have go1 := hp _ ok1.2.2.2
      have G1 := (inv_B I1 X1).2.2
      have ix := ins_x X1 ok1.1 (by omega) go1.1 hE
      have ii := ins_i dum_B dum_H hE (fun _ => ⟨rfl, rfl, rfl⟩) hp I1
      have xx := ins_xi (E := E) XI1 ok1.1 go1.1
      refine L34i hE hp hG I1 X1 XI1 (SEc_q poσ pnσ q sE) c1 (fun y => ?_) (fun y1 y2 y3 => ?_) (fun y1 y2 y3 υ q2 e2 c2 => ?_) (fun y1 y2 υ q2 e2 c2 => ?_)
      · rw [if_pos y] at ei
        rw [ei, if_pos y] at h
        cases h
        exact ⟨rfl, fun υ z => fnC_t z q pnτ e0⟩
      · rw [if_neg (not_not_intro y1), if_pos y2, if_pos y3] at ei
        rw [ei] at h
        have h : some ((0 : Int), (insK E p m.2.2).2.2) = some (f, w') := h
        cases h
        exact ⟨rfl, fun υ z => fnC_t z q pnτ e0⟩
      · rw [if_neg (not_not_intro y1), if_pos y2, if_neg y3] at ei
        exact nxt υ _ ei (((ii y1).2 y2).2 y3) ((ix y1).2 y2 y3) ((xx y1).2 y2 y3) (cwq_t q2 q pnτ) (e2.trans e0) c2
      · rw [if_neg (not_not_intro y1), if_neg (show ¬ (insK E p m.2.2).2.1 = true by rw [y2]; decide)] at ei
        exact nxt υ _ ei ((ii y1).1 y2) ((ix y1).1 y2) ((xx y1).1 y2) (cwq_t q2 q pnτ) (e2.trans e0) c2
end CWLM
