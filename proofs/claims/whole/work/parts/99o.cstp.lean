/-! ===== the class's walk against the pure walk: an instruction; what is behind it ===== -/
/-- what the walk finds there and leaves alone -/
def SEc (σ : MS) (E : EV) (p : Int → B64) (J : Int → Bool) (cc : Nat) : Prop := (7 ≤ cc ∧ cc ≤ 14) ∧ CEO σ E ∧ rC σ 41 = cstN 0#64 ∧ (∀ i : Nat, i < 200 → gL σ cc i = p (i : Int)) ∧ ∀ i : Nat, i < 200 → (J (i : Int) = true ↔ ¬ gI σ 56 i = 0)
/-- another one is at hand -/
abbrev atW (w : WK) (S : ST) (a T : Int) : WK := ((S, a, yK w, yF w, yG w, T), w.2)
section CSTP
variable {τ σ ρ υ : MS} {cf wf : Nat → Nat} {D : Nat → Bool} {hc sc q s k j a c cc M : Nat} {w : WK} {C B n g f4 F Fr T : Int} {S S1 S2 : ST} {E : EV} {p : Int → B64} {J : Int → Bool} {t : Int}
theorem SEc_q (po : POOL σ) (pn : PCN σ C) (h : cwq τ σ) (s : SEc σ E p J cc) : SEc τ E p J cc := by
  obtain ⟨s0, s1, s2, s3, s4⟩ := s
  have g : ∀ q s, q < 62 → ¬ cwT q s → gI τ q s = gI σ q s ∧ gL τ q s = gL σ q s ∧ gR τ q s = gR σ q s := fun q s hq => h.1 q s (oth_l po pn (Or.inl hq))
  refine ⟨s0, fun m hm => ?_, ?_, fun i hi => ((g _ _ (by omega) (by omega)).2.1).trans (s3 i hi), fun i hi => ?_⟩
  · rw [(g 31 m (by decide) (by omega)).1, (g 32 m (by decide) (by omega)).1, (g 29 m (by decide) (by omega)).1, (g 30 m (by decide) (by omega)).1]
    exact s1 m hm
  · rw [← s2]
    unfold rC
    rw [(g 41 _ (by decide) (by omega)).2.1, (g 41 _ (by decide) (by omega)).2.1, (g 41 _ (by decide) (by omega)).2.1, (g 41 _ (by decide) (by omega)).2.1, (g 41 _ (by decide) (by omega)).2.1, (g 41 _ (by decide) (by omega)).2.1]
  · rw [(g 56 i (by decide) (by omega)).1]
    exact s4 i hi
theorem CWx_c {S S' : ST} {a a' F G T : Int} {k : Nat} {R : (Nat × (Nat → KT)) × (Nat × (Nat → WT)) × Int × Int × (Int → Option ST)} (h : CWx σ C cf wf D hc ((S, a, k, F, G, T), R)) : CWx σ C cf wf D hc ((S', a', k, F, G, T), R) := h
theorem CWx_a (h : CWx σ C cf wf D hc w) (S' : ST) (a' : Int) : CWx σ C cf wf D hc (atW w S' a' (yT w)) := h
/-- a change at the Steps, at here and at the spare -/
theorem CWx_m (h : CWx σ C cf wf D hc w) (h15 : gR σ 39 15 = some sc) (gi : ∀ q s, ¬ q = 40 → ¬ ((q = hc ∧ (s = 3 ∨ s = 4)) ∨ q = hc + 1 + 1 ∨ q = hc + 1 + 2) → ¬ (sc ≤ q ∧ q ≤ sc + 3) → gI τ q s = gI σ q s) (gl : ∀ q s, ¬ q = 40 → ¬ (42 ≤ q ∧ q ≤ 50) → ¬ q = hc + 1 + 0 → ¬ q = sc + 1 + 0 → gL τ q s = gL σ q s) (gr : ∀ q s, ¬ (q = 40 ∧ (s = 1 ∨ s = 2)) → ¬ (q = sc ∧ s = 6) → gR τ q s = gR σ q s) (kk : τ.2.2.2 = σ.2.2.2) : cwq τ σ ∧ gI τ 51 0 = gI σ 51 0 ∧ CWx τ C cf wf D hc (atW w (yS w) (yA w) (gI τ 40 8)) := by
  obtain ⟨df, ⟨po, pn, _, _⟩, hk, hw, ⟨l1, l2, l3⟩, h11, ⟨⟨f1, f2, f4, f5⟩, f8, fk⟩⟩ := h
  have sh := po.1 0 hc (by decide) (sR_z.trans l1)
  have ch := sh.2
  have ss := po.1 1 sc (by decide) (sR_o.trans h15)
  have cs := ss.2
  have dhs := po.2 0 1 hc sc (by decide) (by decide) (by decide) (sR_z.trans l1) (sR_o.trans h15)
  unfold isCl at ch cs
  have N250 := df.2.1.2.1
  have M60 := df.2.1.2.2
  obtain ⟨po', pn', pg'⟩ := po_id po (τ := τ) (fun s _ => by
    unfold slR
    rw [gr _ _ (by omega) (by omega), gr _ _ (by omega) (by omega), gr _ _ (by omega) (by omega), gr _ _ (by omega) (by omega)]) kk
  have sm : ∀ s c, s < 312 → 2 ≤ s → slR σ s = some c → same τ σ c := fun s c hs s2 e => by
    have y := (po.1 s c hs e).2
    unfold isCl at y
    have d1 := po.2 s 0 c hc hs (by decide) (by omega) e (sR_z.trans l1)
    have d2 := po.2 s 1 c sc hs (by decide) (by omega) e (sR_o.trans h15)
    exact ⟨fun q s q1 q2 => ⟨gi q s (by omega) (by omega) (by omega), gl q s (by omega) (by omega) (by omega) (by omega), gr q s (by omega) (by omega)⟩, fun z => st_r3 kk z⟩
  have nh : ∀ q, oth σ q → ¬ (hc ≤ q ∧ q < hc + 4) ∧ ¬ (sc ≤ q ∧ q < sc + 4) := fun q o => ⟨o.2 0 hc (by decide) (sR_z.trans l1), o.2 1 sc (by decide) (sR_o.trans h15)⟩
  have i52 : ∀ q s, q < 62 → ¬ q = 40 → gI τ q s = gI σ q s := fun q s h h2 => gi q s h2 (by omega) (by omega)
  have hk2 := CWk_s (τ := τ) hk (fun k hkN => sm (2 + k) _ (by omega) (by omega) ((sR_kp (by omega)).trans (hk.1 k hkN))) (fun q s _ _ _ => gr q s (by omega) (by omega))
  have hw2 := CWw_s (τ := τ) hw (fun j hj => sm (252 + j) _ (by omega) (by omega) (sR_wt.trans (hw j hj).1.1)) (fun j _ => gr _ _ (by omega) (by omega))
  refine ⟨⟨fun q s o p => ?_, fun q _ => kd_r3 kk q, pg'⟩, i52 _ _ (by decide) (by decide), df, ⟨po', pn' C pn, sc, (gr _ _ (by omega) (by omega)).trans h15⟩, hk2, hw2, ⟨(gr _ _ (by omega) (by omega)).trans l1, (gi hc 7 (by omega) (by omega) (by omega)).trans l2, (gr hc 6 (by omega) (by omega)).trans l3⟩, (i52 _ _ (by decide) (by decide)).trans h11, ⟨⟨(i52 _ _ (by decide) (by decide)).trans f1, (i52 _ _ (by decide) (by decide)).trans f2, (i52 _ _ (by decide) (by decide)).trans f4, (i52 _ _ (by decide) (by decide)).trans f5⟩, rfl, KN_c (fun s => i52 _ _ (by decide) (by decide)) (fun s => gl _ _ (by omega) (by omega) (by omega) (by omega)) fk⟩⟩
  have := nh q o
  exact ⟨gi q s (by omega) (by omega) (by omega), gl q s (by omega) (by omega) (by omega) (by omega), gr q s (by omega) (by omega)⟩
/-- an instruction -/
theorem cw_stp (h : CWx σ C cf wf D hc w) (hh : CWh σ w hc) (s : SEc σ E p J cc) (h15 : gR σ 39 15 = some sc) (P : PX (yS w) E (yT w)) (hE : okE E) (ea : yA w = (a : Int)) (ha : a < 200) (p1 : okI (p (yA w)) (p (yA w + 1))) (p2 : fL (p (yA w)) = 0 → a + 1 < 200) (p3 : fL (p (yA w)) = 5 ∨ fL (p (yA w)) = 6 → ¬ fOp (p (yA w)) = 149 → (fOp (p (yA w)) = 133 → fS (p (yA w)) = 1) → 0 ≤ goal (yA w) (p (yA w)) ∧ goal (yA w) (p (yA w)) < 1000) :
    okc (MM 240 [mR (some 40), mR (some hc), mR (some sc), mR (some cc)] σ) (some (mI (stpJ E (yS w) (yA w) (p (yA w)) (p (yA w + 1)) (yT w)).1)) (fun τ => (cwq τ σ ∧ gI τ 51 0 = gI σ 51 0 ∧ CWx τ C cf wf D hc (atW w (yS w) (yA w) (gI τ 40 8)) ∧ gR τ 39 15 = some sc) ∧ ((stpJ E (yS w) (yA w) (p (yA w)) (p (yA w + 1)) (yT w)).1 = 0 → gI τ 40 8 = (stpJ E (yS w) (yA w) (p (yA w)) (p (yA w + 1)) (yT w)).2.2.2 ∧ match (stpJ E (yS w) (yA w) (p (yA w)) (p (yA w + 1)) (yT w)).2.1, (stpJ E (yS w) (yA w) (p (yA w)) (p (yA w + 1)) (yT w)).2.2.1 with
      | some (n, S1), none => CSt τ hc S1 ∧ gI τ 40 4 = n ∧ gI τ 40 3 = 0
      | some (n, S1), some (g, S2) => (CSt τ hc S1 ∧ gI τ 40 4 = n) ∧ (gI τ 40 3 = 1 ∧ gI τ 40 5 = g ∧ CSt τ sc S2) ∧ gI τ sc 7 = yF w ∧ gR τ sc 6 = some (cf (yK w))
      | none, _ => gI τ 40 4 = -1 ∧ gI τ 40 3 = 0 ∧ gI τ hc 3 = (sF (yS w) : Int))) := by
  have h' := h
  obtain ⟨df, ⟨po, pn, _, _⟩, hk, hw, ⟨l1, l2, l3⟩, h11, ⟨⟨f1, f2, f4, f5⟩, f8, fk⟩⟩ := h'
  obtain ⟨s0, s1, s2, s3, s4⟩ := s
  have sh := po.1 0 hc (by decide) (sR_z.trans l1)
  have ch := sh.2
  have ss := po.1 1 sc (by decide) (sR_o.trans h15)
  have cs := ss.2
  have dhs := po.2 0 1 hc sc (by decide) (by decide) (by decide) (sR_z.trans l1) (sR_o.trans h15)
  have kc : kd σ cc = (4, 200) := by
    obtain ⟨c1, c2⟩ := s0
    have o : cc = 7 ∨ cc = 8 ∨ cc = 9 ∨ cc = 10 ∨ cc = 11 ∨ cc = 12 ∨ cc = 13 ∨ cc = 14 := by omega
    rcases o with e | e | e | e | e | e | e | e <;> (rw [e]; rfl)
  have N250 := df.2.1.2.1
  have ck := ap_kc po N250 hk.1 df.2.1.1
  have hl : ak σ 2 (gR σ hc 6) := fun _ => by
    rw [l3]
    show (kd σ (cf (yK w))).1 = 28
    rw [ck.1.1]
  have fr := fld_rng (p (yA w))
  have hg : (fOp (p (yA w)) = 133 → fS (p (yA w)) = 1) → -2147483648 ≤ goal (a : Int) (p (yA w)) ∧ goal (a : Int) (p (yA w)) < 2147483648 := fun z => by
    by_cases o : fOp (p (yA w)) = 6 ∨ fOp (p (yA w)) = 133
    · have := p3 (by unfold fL; omega) (by omega) z
      rw [ea] at this ⊢
      omega
    · unfold goal
      rw [if_neg o]
      omega
  have hw : okPl (p (yA w)) ∨ (a + 1 < (kd σ cc).2 ∧ gL σ cc (a + 1) = p (yA w + 1) ∧ okPr (p (yA w)) (p (yA w + 1)) ∧ fL (p (yA w)) = 0) := by
    rcases p1 with ⟨q1, q2⟩ | q
    · right
      have := p2 q1
      refine ⟨by rw [kc]; exact this, ?_, q2, q1⟩
      rw [s3 _ this, ea]
      rfl
    · exact Or.inl q
  have t := T240 (c := cc) (i := a) (w := p (yA w)) (w2 := p (yA w + 1)) (t := yT w) sh.1 ss.1 dhs (cl_s ch) (cl_s cs) s1 s2 (by rw [kc]) (by rw [kc]; exact ha) (by omega) (hh.2.trans ea) (by rw [s3 a ha, ea]) hh.1 P hE f8 hl hw hg
  rw [← ea] at t
  obtain ⟨τ, t0, q, r⟩ := t
  unfold isCl at ch cs
  have hg' : ∀ q s, ¬ q = 40 → gI (hdr σ hc sc (p (yA w)) (yA w + 1)) q s = gI σ q s := fun q s h => by
    show gI (sI (sI (sI σ 40 3 0) 40 7 (fOp (p (yA w)))) 40 4 (yA w + 1)) q s = _
    rw [gI_sI, if_neg (fun z => h z.1), gI_sI, if_neg (fun z => h z.1), gI_sI, if_neg (fun z => h z.1)]
  have hl' : ∀ q s, ¬ q = 40 → gL (hdr σ hc sc (p (yA w)) (yA w + 1)) q s = gL σ q s := fun q s h => by
    show gL (sL σ 40 6 (p (yA w))) q s = _
    rw [gL_sL, if_neg (fun z => h z.1)]
  have hr' : ∀ q s, ¬ (q = 40 ∧ (s = 1 ∨ s = 2)) → gR (hdr σ hc sc (p (yA w)) (yA w + 1)) q s = gR σ q s := fun q s h => by
    show gR (sR (sR σ 40 1 (some hc)) 40 2 (some sc)) q s = _
    rw [gR_sR, if_neg (by omega), gR_sR, if_neg (by omega)]
  have kk : τ.2.2.2 = σ.2.2.2 := q.2.2.2
  have gr : ∀ q s, ¬ (q = 40 ∧ (s = 1 ∨ s = 2)) → ¬ (q = sc ∧ s = 6) → gR τ q s = gR σ q s := fun q' s a1 a2 => (q.2.2.1 q' s a2).trans (hr' q' s a1)
  obtain ⟨m1, m2, m3⟩ := CWx_m (τ := τ) h h15 (fun q' s a1 a2 a3 => (q.1 q' s (fun z => a1 z.1) a2 a3).trans (hg' q' s a1)) (fun q' s a1 a2 a3 a4 => (q.2.1 q' s a2 a3 a4).trans (hl' q' s a1)) gr kk
  refine okc_o (τ := τ) t0 ⟨⟨m1, m2, m3, (gr _ _ (by omega) (by omega)).trans h15⟩, fun z => ?_⟩
  have r := r z
  generalize stpJ E (yS w) (yA w) (p (yA w)) (p (yA w + 1)) (yT w) = jr at r ⊢
  obtain ⟨j0, j1, j2, j3⟩ := jr
  cases j1 with
  | none => exact ⟨r.1, r.2.1, r.2.2.1, r.2.2.2.trans ((hg' _ _ (by omega)).trans hh.1.1.1)⟩
  | some y1 =>
    cases j2 with
    | none => exact r
    | some y2 =>
      obtain ⟨b0, b1, b2', b3, b4⟩ := r
      exact ⟨b0, b1, b2', b3.trans ((hg' _ _ (by omega)).trans l2), b4.trans ((hr' _ _ (by omega)).trans l3)⟩
theorem mxI {a b : Int} : (if a < b then b else a) = max a b := by
  rw [Int.max_def]
  split <;> split <;> omega
/-- facts 4 and 5 told anew; here's word -/
theorem CWx_5 (h : CWx σ C cf wf D hc w) {x1 x2 : Int} (gi : ∀ q s, ¬ (q = 51 ∧ (s = 4 ∨ s = 5)) → ¬ (q = hc ∧ s = 5) → gI τ q s = gI σ q s) (e4 : gI τ 51 4 = x1) (e5 : gI τ 51 5 = x2) (er : τ.2 = σ.2) : cwq τ σ ∧ gI τ 51 0 = gI σ 51 0 ∧ CWx τ C cf wf D hc (w.1, w.2.1, w.2.2.1, x1, x2, w.2.2.2.2.2) := by
  obtain ⟨df, ⟨po, pn, sc, h15⟩, hk, hw, ⟨l1, l2, l3⟩, h11, ⟨⟨f1, f2, f4, f5⟩, f8, fk⟩⟩ := h
  have ch := (po.1 0 hc (by decide) (sR_z.trans l1)).2
  unfold isCl at ch
  have N250 := df.2.1.2.1
  have M60 := df.2.1.2.2
  have rr : ∀ q s, gR τ q s = gR σ q s := fun q s => by
    unfold gR
    rw [er]
  have ll : ∀ q s, gL τ q s = gL σ q s := fun q s => by
    unfold gL
    rw [er]
  have kk : τ.2.2.2 = σ.2.2.2 := by rw [er]
  obtain ⟨po', pn', pg'⟩ := po_id po (τ := τ) (fun s _ => by
    unfold slR
    rw [rr, rr, rr, rr]) kk
  have nh : ∀ q, oth σ q → ¬ q = hc := fun q o e => o.2 0 hc (by decide) (sR_z.trans l1) (by omega)
  have sm : ∀ c, isCl c → (c + 3 < hc ∨ hc + 3 < c) → same τ σ c := fun c h1 h2 => by
    unfold isCl at h1
    exact ⟨fun q s q1 q2 => ⟨gi q s (by omega) (by omega), ll q s, rr q s⟩, fun z => st_r3 kk z⟩
  have hk2 := CWk_s (τ := τ) hk (fun k hkN => sm _ (ap_kc po N250 hk.1 hkN).2 (ap_kh po N250 hk.1 l1 hkN)) (fun q s _ _ _ => rr q s)
  have hw2 := CWw_s (τ := τ) hw (fun j hj => sm _ (ap_wc po (show j < 60 by omega) (hw j hj).1.1).2 (ap_wh po (show j < 60 by omega) (hw j hj).1.1 l1)) (fun j _ => rr _ _)
  exact ⟨⟨fun q s o p => ⟨gi q s (by omega) (fun z => nh q o z.1), ll q s, rr q s⟩, fun q _ => kd_r3 kk q, pg'⟩, gi _ _ (by omega) (by omega), df, ⟨po', pn' C pn, sc, (rr _ _).trans h15⟩, hk2, hw2, ⟨(rr _ _).trans l1, (gi _ _ (by omega) (by omega)).trans l2, (rr _ _).trans l3⟩, (gi _ _ (by omega) (by omega)).trans h11, ⟨⟨(gi _ _ (by omega) (by omega)).trans f1, (gi _ _ (by omega) (by omega)).trans f2, e4, e5⟩, (gi _ _ (by omega) (by omega)).trans f8, KN_c (fun s => gi _ _ (by omega) (by omega)) (fun s => ll _ _) fk⟩⟩
/-- one way goes on -/
theorem cw_g1 (h : CWx σ C cf wf D hc w) (c1 : CSt σ hc S1) (h4 : gI σ 40 4 = n) (h0 : 0 ≤ n) (h3 : gI σ 40 3 = 0) : okc (MM 36 [mR (some 39)] σ) (some (mI 1)) (fun τ => cwq τ σ ∧ gI τ 51 0 = gI σ 51 0 ∧ CW τ C ((S1, n, yK w, yF w, yG w, yT w), w.2.1, w.2.2.1, w.2.2.2.1, max w.2.2.2.2.1 (sF S1 : Int), w.2.2.2.2.2)) := by
  have h' := h
  obtain ⟨df, ⟨po, pn, sc, h15⟩, hk, hw, ⟨l1, l2, l3⟩, h11, ⟨⟨f1, f2, f4, f5⟩, f8, fk⟩⟩ := h'
  have sh := po.1 0 hc (by decide) (sR_z.trans l1)
  have ch := sh.2
  unfold isCl at ch
  have t1 := L36a l1 sh.1 h3 f5 c1.1.1
  obtain ⟨ρ, hρ⟩ : ∃ ρ, ρ = sI σ 51 5 (if w.2.2.2.2.1 < (sF S1 : Int) then (sF S1 : Int) else w.2.2.2.2.1) := ⟨_, rfl⟩
  rw [← hρ] at t1
  have t2 := L36n (ρ := ρ) (hc := hc) (n := n) (by rw [hρ]; exact l1) (by rw [hρ]; exact sh.1) (by rw [hρ, gI_sI, if_neg (by omega)]; exact h4) h0
  have gi : ∀ q s, ¬ (q = 51 ∧ s = 5) → ¬ (q = hc ∧ s = 5) → gI (sI ρ hc 5 n) q s = gI σ q s := fun q s a1 a2 => by
    rw [gI_sI, if_neg a2, hρ, gI_sI, if_neg a1]
  obtain ⟨m1, m2, m3⟩ := CWx_5 (τ := sI ρ hc 5 n) h (fun q s a1 a2 => gi q s (by omega) a2) ((gi _ _ (by omega) (by omega)).trans f4) (show gI (sI ρ hc 5 n) 51 5 = max w.2.2.2.2.1 (sF S1 : Int) by rw [gI_sI, if_neg (by omega), hρ, gI_sI, if_pos ⟨rfl, rfl⟩, mxI]) (by rw [hρ]; rfl)
  refine okc_o (τ := sI ρ hc 5 n) (t1.trans t2) ⟨m1, m2, cf, wf, D, hc, m3, ?_, ?_⟩
  · exact CSt_h (gi _ _ (by omega) (by omega)) (gi _ _ (by omega) (by omega)) (fun s => gi _ _ (by omega) (by omega)) (fun s => gi _ _ (by omega) (by omega)) (fun s => by rw [hρ]; rfl) c1
  · rw [gI_sI, if_pos ⟨rfl, rfl⟩]
/-- the way is over -/
theorem cw_g0 (h : CWx σ C cf wf D hc w) (h4 : gI σ 40 4 = -1) (h3 : gI σ 40 3 = 0) (fr : gI σ hc 3 = Fr) (hx : Fr ≤ w.2.2.2.2.1) (hB : KB (yH w) (yNn w) B) (hC : 0 ≤ B ∧ B ≤ 50000) (hF : 0 ≤ yF w ∧ yF w ≤ B + 4000) :
    (yM w = 0 → okc (MM 36 [mR (some 39)] σ) (some (mI 0)) (fun τ => cwq τ σ ∧ CWp τ C ∧ CWf τ w ∧ gI τ 51 0 = gI σ 51 0 ∧ gI τ 51 3 = kL (endK (yH w) (yK w) (yF w) 0) ∧ ∃ hc, gR τ 39 14 = some hc))
    ∧ (¬ yM w = 0 → okc (MM 36 [mR (some 39)] σ) (some (mI 1)) (fun τ => cwq τ σ ∧ gI τ 51 0 = gI σ 51 0 ∧ CW τ C (popK (w.1, (yNn w, endK (yH w) (yK w) (yF w)), w.2.2)))) := by
  have h' := h
  obtain ⟨df, ⟨po, pn, sc, h15⟩, hk, hw, ⟨l1, l2, l3⟩, h11, ⟨⟨f1, f2, f4, f5⟩, f8, fk⟩⟩ := h'
  have sh := po.1 0 hc (by decide) (sR_z.trans l1)
  have ch := sh.2
  unfold isCl at ch
  have t1 := L36a l1 sh.1 h3 f5 fr
  rw [if_neg (show ¬ w.2.2.2.2.1 < Fr by omega)] at t1
  obtain ⟨ρ, hρ⟩ : ∃ ρ, ρ = sI σ 51 5 w.2.2.2.2.1 := ⟨_, rfl⟩
  rw [← hρ] at t1
  have gi : ∀ q s, ¬ (q = 51 ∧ s = 5) → gI ρ q s = gI σ q s := fun q s a1 => by
    rw [hρ, gI_sI, if_neg a1]
  obtain ⟨m1, m2, m3⟩ := CWx_5 (τ := ρ) h (fun q s a1 a2 => gi q s (by omega)) ((gi _ _ (by omega)).trans f4) (show gI ρ 51 5 = w.2.2.2.2.1 by rw [hρ, gI_sI, if_pos ⟨rfl, rfl⟩]) (by rw [hρ]; rfl)
  have m3' : CWx ρ C cf wf D hc w := m3
  have k4 : gI ρ 40 4 = -1 := (gi _ _ (by omega)).trans h4
  have z0 : yF w + 0 = yF w := Int.add_zero _
  refine ⟨fun m0 => ?_, fun m0 => ?_⟩
  · obtain ⟨τ, t, a1, a2, a3, a4, a5, a6⟩ := cw_e0 (n := 0) m3' m0 hB hC (by omega)
    rw [z0] at a5
    exact okc_o (τ := τ) (t1.trans (L36e k4 (by decide) (Or.inl rfl) t)) ⟨cwq_t a1 m1 m3'.2.1.2.1, a2, a3, a4.trans m2, a5, hc, a6⟩
  · obtain ⟨m, em⟩ : ∃ m, yM w = m + 1 := ⟨yM w - 1, by omega⟩
    obtain ⟨τ, t, a1, a2, a3⟩ := cw_e1 (n := 0) m3' em hB hC (by omega)
    rw [z0] at a3
    exact okc_o (τ := τ) (t1.trans (L36e k4 (by decide) (Or.inr rfl) t)) ⟨cwq_t a1 m1 m3'.2.1.2.1, a2.trans m2, a3⟩
end CSTP
