/-! ===== the class's walk against the pure walk: states that stay; an instruction is noted ===== -/
def same (τ σ : MS) (c : Nat) : Prop := (∀ q s, c ≤ q → q < c + 4 → gI τ q s = gI σ q s ∧ gL τ q s = gL σ q s ∧ gR τ q s = gR σ q s) ∧ (isSt σ c → isSt τ c)
def ntW (w : WK) : WK := ((yS w, yA w, yK w, yF w + 1, yG w + 1, yT w), w.2.1, w.2.2.1, w.2.2.2.1, w.2.2.2.2.1, xK w)
def w5 (w : WK) (y : Int) : WK := (w.1, w.2.1, w.2.2.1, w.2.2.2.1, y, w.2.2.2.2.2)
def xI (w : WK) : Prop := xS (yS w) ∧ (∀ k, k < yNn w → xS (kS (yH w k))) ∧ ∀ j, j < yM w → xS (wtS (yW w j))
section CNTE
variable {τ σ ρ : MS} {cf wf : Nat → Nat} {D : Nat → Bool} {hc q s k j a c : Nat} {w : WK} {C B n : Int} {S : ST} {K : Nat → KT} {N M : Nat} {E : EV} {p : Int → B64}
theorem same_r : same σ σ c := ⟨fun _ _ _ _ => ⟨rfl, rfl, rfl⟩, fun h => h⟩
theorem same_t {ρ : MS} (h1 : same τ ρ c) (h2 : same ρ σ c) : same τ σ c := ⟨fun q s a b => ⟨((h1.1 q s a b).1).trans (h2.1 q s a b).1, ((h1.1 q s a b).2.1).trans (h2.1 q s a b).2.1, ((h1.1 q s a b).2.2).trans (h2.1 q s a b).2.2⟩, fun z => h1.2 (h2.2 z)⟩
theorem same_C (h : same τ σ c) (cS : CSt σ c S) : CSt τ c S := CSt_q (fun s => (h.1 _ _ (by omega) (by omega)).1) (fun s => (h.1 _ _ (by omega) (by omega)).1) (fun s => (h.1 _ _ (by omega) (by omega)).1) (fun s => (h.1 _ _ (by omega) (by omega)).2.1) cS
theorem KC_s (h : KC σ cf K N D) (hs : ∀ k, k < N → same τ σ (cf k)) : KC τ cf K N D := fun k hk => by
  obtain ⟨⟨a1, ac⟩, a2, ⟨a5, a7, a9, a10⟩, a6⟩ := h k hk
  have z := hs k hk
  have zi : ∀ s, gI τ (cf k) s = gI σ (cf k) s := fun s => (z.1 _ _ (by omega) (by omega)).1
  exact ⟨⟨z.2 a1, ac⟩, same_C z a2, ⟨(zi _).trans a5, (zi _).trans a7, (zi _).trans a9, (zi _).trans a10⟩, ((z.1 _ _ (by omega) (by omega)).2.2).trans a6⟩
theorem KF_s (h : KF σ cf K N) (hs : ∀ k, k < N → same τ σ (cf k)) : KF τ cf K N := fun k hk => ((hs k hk).1 _ _ (by omega) (by omega)).2.2.trans (h k hk)
theorem CWw_s (h : CWw σ cf wf w) (hs : ∀ j, j < yM w → same τ σ (wf j)) (h59 : ∀ j, j < yM w → gR τ 59 j = gR σ 59 j) : CWw τ cf wf w := fun j hj => by
  obtain ⟨⟨u1, u2⟩, u3, u4, u5⟩ := h j hj
  have z := hs j hj
  have zi : ∀ s, gI τ (wf j) s = gI σ (wf j) s := fun s => (z.1 _ _ (by omega) (by omega)).1
  exact ⟨⟨(h59 j hj).trans u1, same_C z u2⟩, (zi _).trans u3, (zi _).trans u4, ((z.1 _ _ (by omega) (by omega)).2.2).trans u5⟩
/-- what is kept of a store behind a change that leaves the kept states alone -/
theorem CWk_s (h : CWk σ cf w D) (hs : ∀ k, k < yNn w → same τ σ (cf k)) (h58 : ∀ q s, 58 ≤ q → q ≤ 61 → ¬ q = 59 → gR τ q s = gR σ q s) : CWk τ cf w D := by
  obtain ⟨k1, ⟨k2, k3⟩, k4, k5⟩ := h
  refine ⟨fun k hk => (h58 58 k (by decide) (by decide) (by decide)).trans (k1 k hk), ⟨KC_s k2 hs, KF_s k3 hs⟩, k4, fun a ha => ?_⟩
  rw [h58 60 a (by decide) (by decide) (by decide), h58 61 a (by decide) (by decide) (by decide)]
  exact k5 a ha
theorem cpL_l {k0 k1 : Nat} {sp dp n : Int} : gL (cpL σ k0 sp k1 dp n) q s = if q = k1 ∧ dp ≤ (s : Int) ∧ (s : Int) < dp + n then gL σ k0 ((s : Int) - dp + sp).toNat else gL σ q s := rfl
theorem cw_note {y : Int} (h : CWx σ C cf wf D hc (w5 w y)) (hh : CWh σ w hc) (ea : yA w = (a : Int)) (ha : a < 200) (F1 : 1 ≤ sF (yS w) ∧ sF (yS w) ≤ 4) (e5 : (if y < (sF (yS w) : Int) then (sF (yS w) : Int) else y) = w.2.2.2.2.1) (hG : 0 ≤ yG w ∧ yG w < 100000) (hF : 0 ≤ yF w ∧ yF w < 100000) : ∃ τ, MM 35 [mR (some 39), mI (a : Int)] σ = some (none, τ) ∧ cwq τ σ ∧ gI τ 51 0 = gI σ 51 0 ∧ τ.2.2 = σ.2.2 ∧ CWx τ C cf wf D hc (ntW w) ∧ CWh τ (ntW w) hc := by
  obtain ⟨df, ⟨po, pn, sc, h15⟩, hk, hw, ⟨l1, l2, l3⟩, h11, ⟨⟨f1, f2, f4, f5⟩, f8, fk⟩⟩ := h
  have sh := po.1 0 hc (by decide) (sR_z.trans l1)
  have ch := sh.2
  unfold isCl at ch
  have N250 := df.2.1.2.1
  have M60 := df.2.1.2.2
  have f1 : gI σ 51 1 = yG w := f1
  have f5 : gI σ 51 5 = y := f5
  have l2 : gI σ hc 7 = yF w := l2
  have t := T35 (S := yS w) (G := yG w) (Fa := yF w) (f5 := y) ha l1 sh.1 sh.2 hh.1 F1 f1 hG l2 hF f5
  obtain ⟨τ, eτ⟩ : ∃ τ, τ = sI (cpL (ntS σ hc (yS w) (yG w) (yF w) y) (hc + 1 + 0) ((pR (yS w) 0 : Nat) : Int) 53 ((110 * a : Nat) : Int) 110) 52 a 1 := ⟨_, rfl⟩
  rw [← eτ] at t
  have gi0 : ∀ q s, gI τ q s = if q = 52 ∧ s = a then 1 else if q = 51 ∧ s = 5 then w.2.2.2.2.1 else if q = hc ∧ s = 7 then yF w + 1 else if q = 51 ∧ s = 1 then yG w + 1 else gI σ q s := fun q s => by
    rw [eτ, gI_sI]
    show (if q = 52 ∧ s = a then 1 else gI (ntS σ hc (yS w) (yG w) (yF w) y) q s) = _
    rw [gI_sI, gI_sI, gI_sI, e5]
  have gi : ∀ q s, ¬ (q = 52 ∧ s = a) → ¬ (q = hc ∧ s = 7) → ¬ (q = 51 ∧ (s = 1 ∨ s = 5)) → gI τ q s = gI σ q s := fun q s h1 h2 h3 => by
    rw [gi0, if_neg h1, if_neg (by omega), if_neg h2, if_neg (by omega)]
  have gl : ∀ q s, ¬ (q = 53 ∧ 110 * a ≤ s ∧ s < 110 * a + 110) → gL τ q s = gL σ q s := fun q s h => by
    rw [eτ]
    show gL (cpL (ntS σ hc (yS w) (yG w) (yF w) y) (hc + 1 + 0) ((pR (yS w) 0 : Nat) : Int) 53 ((110 * a : Nat) : Int) 110) q s = _
    rw [cpL_l, if_neg (by omega)]
    rfl
  have gl2 : ∀ s, s < 110 → gL τ 53 (110 * a + s) = gL σ (hc + 1 + 0) (pR (yS w) 0 + s) := fun s h => by
    rw [eτ]
    show gL (cpL (ntS σ hc (yS w) (yG w) (yF w) y) (hc + 1 + 0) ((pR (yS w) 0 : Nat) : Int) 53 ((110 * a : Nat) : Int) 110) 53 (110 * a + s) = _
    rw [cpL_l, if_pos (by omega), show (((110 * a + s : Nat) : Int) - ((110 * a : Nat) : Int) + ((pR (yS w) 0 : Nat) : Int)).toNat = pR (yS w) 0 + s by omega]
    rfl
  have r2 : τ.2.2 = σ.2.2 := by rw [eτ]; rfl
  have rr : ∀ q s, gR τ q s = gR σ q s := fun q s => gR_r r2
  have kk : τ.2.2.2 = σ.2.2.2 := by rw [r2]
  obtain ⟨po', pn', pg'⟩ := po_id po (fun s _ => by
    unfold slR
    rw [rr, rr, rr, rr]) kk
  have sm : ∀ c, isCl c → (c + 3 < hc ∨ hc + 3 < c) → same τ σ c := fun c h1 h2 => by
    unfold isCl at h1
    exact ⟨fun q s q1 q2 => ⟨gi q s (by omega) (by omega) (by omega), gl q s (by omega), rr q s⟩, fun z => st_r3 kk z⟩
  have nh : ∀ q, oth σ q → ¬ q = hc := fun q o e => o.2 0 hc (by decide) (sR_z.trans l1) (by omega)
  have hk2 := CWk_s (τ := τ) hk (fun k hkN => sm _ (ap_kc po N250 hk.1 hkN).2 (ap_kh po N250 hk.1 l1 hkN)) (fun q s _ _ _ => rr q s)
  have hw2 := CWw_s (τ := τ) hw (fun j hj => sm _ (ap_wc po (show j < 60 by omega) (hw j hj).1.1).2 (ap_wh po (show j < 60 by omega) (hw j hj).1.1 l1)) (fun j _ => rr _ _)
  refine ⟨τ, t, ⟨fun q s o p => ⟨gi q s (by omega) (fun z => nh q o z.1) (by omega), gl q s (by omega), rr q s⟩, fun q _ => kd_r3 kk q, pg'⟩, gi _ _ (by omega) (by omega) (by omega), r2, ⟨df, ⟨po', pn' C pn, sc, (rr _ _).trans h15⟩, hk2, hw2, ⟨(rr _ _).trans l1, ?_, (rr _ _).trans l3⟩, (gi _ _ (by omega) (by omega) (by omega)).trans h11, ⟨⟨?_, (gi _ _ (by omega) (by omega) (by omega)).trans f2, (gi _ _ (by omega) (by omega) (by omega)).trans f4, ?_⟩, (gi _ _ (by omega) (by omega) (by omega)).trans f8, ?_⟩⟩, ?_, (gi _ _ (by omega) (by omega) (by omega)).trans hh.2⟩
  · show gI τ hc 7 = yF w + 1
    rw [gi0, if_neg (by omega), if_neg (by omega), if_pos ⟨rfl, rfl⟩]
  · show gI τ 51 1 = yG w + 1
    rw [gi0, if_neg (by omega), if_neg (by omega), if_neg (by omega), if_pos ⟨rfl, rfl⟩]
  · show gI τ 51 5 = w.2.2.2.2.1
    rw [gi0, if_neg (by omega), if_pos ⟨rfl, rfl⟩]
  · intro i hi
    obtain ⟨y1, y2⟩ := fk i hi
    show (∀ S, (if (i : Int) = yA w then some (yS w) else w.2.2.2.2.2 (i : Int)) = some S → _) ∧ ((if (i : Int) = yA w then some (yS w) else w.2.2.2.2.2 (i : Int)) = none → _)
    by_cases e : i = a
    · subst e
      rw [if_pos ea.symm]
      refine ⟨fun S e => ?_, fun z => by cases z⟩
      cases e
      refine ⟨by rw [gi0, if_pos ⟨rfl, rfl⟩], fun r f r1 f1 => ?_⟩
      rw [gl2 _ (by omega)]
      have := cAt_rg (r := r) hh.1 F1.1 (by omega) f f1
      rw [← this, show pR (yS w) 0 + (11 * r + f) = 297 * (sF (yS w) - 1) + 11 * r + f by show 297 * (sF (yS w) - 1) + 11 * 0 + (11 * r + f) = _; omega]
    · rw [if_neg (by omega)]
      refine ⟨fun S e' => ?_, fun z => by rw [gi _ _ (by omega) (by omega) (by omega)]; exact y2 z⟩
      obtain ⟨z1, z2⟩ := y1 S e'
      refine ⟨by rw [gi _ _ (by omega) (by omega) (by omega)]; exact z1, fun r f r1 f1 => ?_⟩
      rw [gl _ _ (by omega)]
      exact z2 r f r1 f1
  · exact CSt_h (gi _ _ (by omega) (by omega) (by omega)) (gi _ _ (by omega) (by omega) (by omega)) (fun s => gi _ _ (by omega) (by omega) (by omega)) (fun s => gi _ _ (by omega) (by omega) (by omega)) (fun s => gl _ _ (by omega)) hh.1
/-! what the pure walk keeps -/
theorem xI_pop {w : WK} (h : xI w) {K : Nat → KT} (hK : ∀ j, kS (K j) = kS (yH w j)) {S' : ST} {a f t' g' x1 x2 : Int} {k : Nat} {x3 : Int → Option ST} (hM : ¬ yM w = 0) : xI (popK ((S', a, k, f, g', t'), (yNn w, K), (yM w, yW w), x1, x2, x3)) := by
  obtain ⟨h1, h2, h3⟩ := h
  have l : yM w - 1 < yM w := by omega
  refine ⟨h3 _ l, fun k hk => ?_, fun j hj => ?_⟩
  · show xS (kS (K k))
    rw [hK]
    exact h2 k hk
  · have hj : j < yM w - 1 := hj
    exact h3 j (by omega)
theorem ins_xi {p : Int → B64} {w : WK} (h : xI w) (ho : okS E (yT w) (yS w)) (hw : okI (p (yA w)) (p (yA w + 1))) (h0 : (insK E p w).1 = 0) : ((insK E p w).2.1 = false → xI (insK E p w).2.2) ∧ ((insK E p w).2.1 = true → ¬ yM (insK E p w).2.2 = 0 → xI (popK (insK E p w).2.2)) := by
  have h' := h
  obtain ⟨h1, h2, h3⟩ := h'
  revert h0
  unfold insK
  by_cases c : yG w = 4000
  · rw [if_pos c]
    intro q
    exact absurd q (by show ¬ (12 : Int) = 0; decide)
  · rw [if_neg c]
    by_cases z : (stpJ E (yS w) (yA w) (p (yA w)) (p (yA w + 1)) (yT w)).1 = 0
    · have ca := stp_x (i := yA w) h1 ho hw
      simp only [z, not_true_eq_false, if_false]
      generalize stpJ E (yS w) (yA w) (p (yA w)) (p (yA w + 1)) (yT w) = r at *
      obtain ⟨rf, ra, rb, rt⟩ := r
      rcases ra with _ | ⟨n, S1⟩
      · intro _
        refine ⟨fun q => (by cases q), fun _ m0 => ?_⟩
        have m0 : ¬ yM w = 0 := m0
        exact xI_pop h (fun j => (end_same _ _ _ j).1) m0
      · have ca1 : xS S1 := ca.1 _ _ rfl
        rcases rb with _ | ⟨g, S2⟩
        · intro _
          exact ⟨fun _ => ⟨ca1, h2, h3⟩, fun q => (by cases q)⟩
        · have ca2 : xS S2 := ca.2 _ _ rfl
          by_cases m60 : yM w = 60
          · simp only [m60, if_true]
            intro q
            exact absurd q (by decide)
          · simp only [m60, if_false]
            intro _
            refine ⟨fun _ => ⟨ca1, fun k hk => ?_, fun j hj => ?_⟩, fun q => (by cases q)⟩
            · show xS (kS (upK (yH w) (yK w) _ k))
              unfold upK
              by_cases e : k = yK w
              · rw [if_pos e, ← e]
                exact h2 k hk
              · rw [if_neg e]
                exact h2 k hk
            · have hj : j < yM w + 1 := hj
              show xS (wtS (if j = yM w then (S2, g, yK w, yF w + 1) else yW w j))
              by_cases e : j = yM w
              · rw [if_pos e]
                exact ca2
              · rw [if_neg e]
                exact h3 j (by omega)
    · simp only [z, not_false_eq_true, if_true]
      intro q
      exact q.elim
theorem mee_xi {w : WK} (h : xI w) (h0 : (meeK w).1 = 0) : ((meeK w).2.1 = false → xI (meeK w).2.2) ∧ ((meeK w).2.1 = true → ¬ yM (meeK w).2.2 = 0 → xI (popK (meeK w).2.2)) := by
  have h' := h
  obtain ⟨h1, h2, h3⟩ := h'
  revert h0
  unfold meeK
  split
  · rename_i k hk
    split
    · intro q
      exact absurd q (by show ¬ (11 : Int) = 0; decide)
    · intro _
      exact ⟨fun q => (by cases q), fun _ m0 => xI_pop (w := w) h (fun j => (end_same _ _ _ j).1) m0⟩
  · split
    · intro q
      exact absurd q (by show ¬ (12 : Int) = 0; decide)
    · intro _
      refine ⟨fun _ => ⟨h1, fun k hk => ?_, h3⟩, fun q => (by cases q)⟩
      have hk : k < yNn w + 1 := hk
      show xS (kS (upK (yH w) (yNn w) _ k))
      unfold upK
      by_cases e : k = yNn w
      · rw [if_pos e]
        exact h1
      · rw [if_neg e]
        exact h2 k (by omega)
end CNTE
