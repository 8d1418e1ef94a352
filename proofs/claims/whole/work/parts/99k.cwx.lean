/-! ===== the class's walk against the pure walk: what is so of a store ===== -/
def KNc (σ : MS) (x : Int → Option ST) : Prop := ∀ i : Nat, i < 200 → (∀ S, x (i : Int) = some S → gI σ 52 i = 1 ∧ ∀ r f : Nat, r < 10 → f < 11 → gL σ 53 (110 * i + (11 * r + f)) = enV (rgV S r) f) ∧ (x (i : Int) = none → gI σ 52 i = 0)
abbrev cwT (q s : Nat) : Prop := (q = 39 ∧ (s = 11 ∨ s = 14 ∨ s = 15)) ∨ q = 40 ∨ (42 ≤ q ∧ q ≤ 53) ∨ (58 ≤ q ∧ q ≤ 61) ∨ q = 70
/-- what the walk may change, beside the states -/
def cwq (τ σ : MS) : Prop := (∀ q s, oth σ q → ¬ cwT q s → gI τ q s = gI σ q s ∧ gL τ q s = gL σ q s ∧ gR τ q s = gR σ q s) ∧ (∀ q, oth σ q → kd τ q = kd σ q) ∧ pgr τ σ
def CWp (σ : MS) (C : Int) : Prop := POOL σ ∧ PCN σ C ∧ ∃ sc, gR σ 39 15 = some sc
def CWk (σ : MS) (cf : Nat → Nat) (w : WK) (D : Nat → Bool) : Prop := (∀ k, k < yNn w → gR σ 58 k = some (cf k)) ∧ (KC σ cf (yH w) (yNn w) D ∧ KF σ cf (yH w) (yNn w)) ∧ (∀ x, x < yNn w → (D x = true ↔ ¬ x ∈ cha (yH w) (yK w))) ∧ ∀ a : Nat, a < 200 → gR σ 60 a = (fnd (fun j => decide (kA (yH w j) = (a : Int))) (yNn w) 0).map cf ∧ gR σ 61 a = (lnd (fun j => decide (kA (yH w j) = (a : Int))) (yNn w)).map cf
def CWw (σ : MS) (cf wf : Nat → Nat) (w : WK) : Prop := ∀ j, j < yM w → (gR σ 59 j = some (wf j) ∧ CSt σ (wf j) (wtS (yW w j))) ∧ gI σ (wf j) 5 = wtA (yW w j) ∧ gI σ (wf j) 7 = wtF (yW w j) ∧ gR σ (wf j) 6 = some (cf (wtK (yW w j)))
def CWh (σ : MS) (w : WK) (hc : Nat) : Prop := CSt σ hc (yS w) ∧ gI σ hc 5 = yA w
def CWl (σ : MS) (cf : Nat → Nat) (w : WK) (hc : Nat) : Prop := gR σ 39 14 = some hc ∧ gI σ hc 7 = yF w ∧ gR σ hc 6 = some (cf (yK w))
def CWf (σ : MS) (w : WK) : Prop := (gI σ 51 1 = yG w ∧ gI σ 51 2 = (yNn w : Int) ∧ gI σ 51 4 = w.2.2.2.1 ∧ gI σ 51 5 = w.2.2.2.2.1) ∧ gI σ 40 8 = yT w ∧ KNc σ w.2.2.2.2.2
/-- all but what is at hand -/
def CWx (σ : MS) (C : Int) (cf wf : Nat → Nat) (D : Nat → Bool) (hc : Nat) (w : WK) : Prop := dfI w ∧ CWp σ C ∧ CWk σ cf w D ∧ CWw σ cf wf w ∧ CWl σ cf w hc ∧ gI σ 39 11 = (yM w : Int) ∧ CWf σ w
def CW (σ : MS) (C : Int) (w : WK) : Prop := ∃ cf wf D hc, CWx σ C cf wf D hc w ∧ CWh σ w hc
section CWX
variable {a b c τ σ ρ : MS} {cf wf : Nat → Nat} {D : Nat → Bool} {hc q s k : Nat} {w : WK} {C B n F : Int} {S : ST} {x : Int → Option ST} {K K' : Nat → KT} {N : Nat}
theorem cwq_r (σ : MS) : cwq σ σ := ⟨fun _ _ _ _ => ⟨rfl, rfl, rfl⟩, fun _ _ => rfl, pgr_r σ⟩
theorem cwq_t (h1 : cwq a b) (h2 : cwq b c) (pn : PCN b C) : cwq a c := ⟨fun q s o p => by
  have o' := pgr_o h2.2.2 pn o
  obtain ⟨x1, x2, x3⟩ := h1.1 q s o' p
  obtain ⟨y1, y2, y3⟩ := h2.1 q s o p
  exact ⟨x1.trans y1, x2.trans y2, x3.trans y3⟩, fun q o => (h1.2.1 q (pgr_o h2.2.2 pn o)).trans (h2.2.1 q o), pgr_t h1.2.2 h2.2.2⟩
theorem oth_l (po : POOL σ) (pn : PCN σ C) (h : q < 62 ∨ (70 ≤ q ∧ q < 153)) : oth σ q := by
  have := pn.2.1
  refine ⟨Or.inl (by omega), fun s c hs e => ?_⟩
  have y := (po.1 s c hs e).2
  unfold isCl at y
  omega
theorem KN_c (hi : ∀ s, gI τ 52 s = gI σ 52 s) (hl : ∀ s, gL τ 53 s = gL σ 53 s) (h : KNc σ x) : KNc τ x := fun i q => by
  obtain ⟨y1, y2⟩ := h i q
  refine ⟨fun S e => ?_, fun e => (hi _).trans (y2 e)⟩
  obtain ⟨z1, z2⟩ := y1 S e
  exact ⟨(hi _).trans z1, fun r f r1 f1 => (hl _).trans (z2 r f r1 f1)⟩
theorem CWf_q (h5 : ∀ s, s = 1 ∨ s = 2 ∨ s = 4 ∨ s = 5 → gI τ 51 s = gI σ 51 s) (h8 : gI τ 40 8 = gI σ 40 8) (hi : ∀ s, gI τ 52 s = gI σ 52 s) (hl : ∀ s, gL τ 53 s = gL σ 53 s) (h : CWf σ w) : CWf τ w := by
  obtain ⟨⟨f1, f2, f4, f5⟩, f8, fk⟩ := h
  exact ⟨⟨(h5 _ (by omega)).trans f1, (h5 _ (by omega)).trans f2, (h5 _ (by omega)).trans f4, (h5 _ (by omega)).trans f5⟩, h8.trans f8, KN_c hi hl fk⟩
/-- the cells of kept states, of ways that wait, of the way at hand lie apart -/
theorem ap_kh (po : POOL σ) (N250 : N ≤ 250) (hk : ∀ k, k < N → gR σ 58 k = some (cf k)) (h14 : gR σ 39 14 = some hc) (hkN : k < N) : (cf k + 3 < hc ∨ hc + 3 < cf k) := po.2 (2 + k) 0 _ _ (by omega) (by decide) (by omega) ((sR_kp (by omega)).trans (hk k hkN)) (sR_z.trans h14)
theorem ap_kw {j wj : Nat} (po : POOL σ) (N250 : N ≤ 250) (hk : ∀ k, k < N → gR σ 58 k = some (cf k)) (hj : j < 60) (hw : gR σ 59 j = some wj) (hkN : k < N) : (cf k + 3 < wj ∨ wj + 3 < cf k) := po.2 (2 + k) (252 + j) _ _ (by omega) (by omega) (by omega) ((sR_kp (by omega)).trans (hk k hkN)) (sR_wt.trans hw)
theorem ap_wh {j wj : Nat} (po : POOL σ) (hj : j < 60) (hw : gR σ 59 j = some wj) (h14 : gR σ 39 14 = some hc) : (wj + 3 < hc ∨ hc + 3 < wj) := po.2 (252 + j) 0 _ _ (by omega) (by decide) (by omega) (sR_wt.trans hw) (sR_z.trans h14)
theorem ap_kc (po : POOL σ) (N250 : N ≤ 250) (hk : ∀ k, k < N → gR σ 58 k = some (cf k)) (hkN : k < N) : isSt σ (cf k) ∧ isCl (cf k) := po.1 (2 + k) _ (by omega) ((sR_kp (by omega)).trans (hk k hkN))
theorem ap_wc {j wj : Nat} (po : POOL σ) (hj : j < 60) (hw : gR σ 59 j = some wj) : isSt σ wj ∧ isCl wj := po.1 (252 + j) _ (by omega) (sR_wt.trans hw)
/-- the frame of the end of a way -/
theorem ew_cwq {m : Nat} (po : POOL σ) (N250 : N ≤ 250) (hk : ∀ k, k < N → gR σ 58 k = some (cf k)) (h : ewq τ σ cf N m) (pg : pgr τ σ) : cwq τ σ := ⟨fun q s o p => ⟨h.1 q s (Or.inr fun k hk' e => by
    have := o.2 (2 + k) (cf k) (by omega) ((sR_kp (by omega)).trans (hk k hk'))
    omega) (by omega) (by omega), h.2.1 q s, h.2.2.1 q s (by omega) (by omega)⟩, fun q _ => kd_r3 h.2.2.2 q, pg⟩
/-- the lists by word -/
theorem lst_e (e : ∀ j, kA (K' j) = kA (K j)) {f m : Nat} {a : Int} : fnd (fun j => decide (kA (K' j) = a)) f m = fnd (fun j => decide (kA (K j) = a)) f m := fnd_e (fun j => by
  show decide (kA (K' j) = a) = decide (kA (K j) = a)
  rw [e j]) f m
theorem lsl_e (e : ∀ j, kA (K' j) = kA (K j)) {a : Int} : lnd (fun j => decide (kA (K' j) = a)) N = lnd (fun j => decide (kA (K j) = a)) N := lnd_g N (fun j _ => by
  show decide (kA (K' j) = a) = decide (kA (K j) = a)
  rw [e j])
theorem CSt_h (h3 : gI τ k 3 = gI σ k 3) (h4 : gI τ k 4 = gI σ k 4) (h1 : ∀ s, gI τ (k + 1 + 1) s = gI σ (k + 1 + 1) s) (h2 : ∀ s, gI τ (k + 1 + 2) s = gI σ (k + 1 + 2) s) (hl : ∀ s, gL τ (k + 1 + 0) s = gL σ (k + 1 + 0) s) (h : CSt σ k S) : CSt τ k S := by
  obtain ⟨⟨f3, f4⟩, v1, v2, v3, v4, v5⟩ := h
  exact ⟨⟨h3.trans f3, h4.trans f4⟩, fun f r hf hr i q => (hl _).trans (v1 f r hf hr i q), fun f hf i q => (hl _).trans (v2 f hf i q), fun f q hf hq i p => (hl _).trans (v3 f q hf hq i p), fun f p q => (h1 _).trans (v4 f p q), fun i hi => (h2 _).trans (v5 i hi)⟩
/-- the last way ends -/
theorem cw_e0 (h : CWx σ C cf wf D hc w) (eM : yM w = 0) (hB : KB (yH w) (yNn w) B) (hC : 0 ≤ B ∧ B ≤ 50000) (hF : 0 ≤ yF w + n ∧ yF w + n ≤ B + 4000) : okc (MM 39 [mR (some 39), mI n] σ) (some (mI 0)) (fun τ => cwq τ σ ∧ CWp τ C ∧ CWf τ w ∧ gI τ 51 0 = gI σ 51 0 ∧ gI τ 51 3 = kL (endK (yH w) (yK w) (yF w + n) 0) ∧ gR τ 39 14 = some hc) := by
  obtain ⟨df, ⟨po, pn, sc, h15⟩, ⟨k1, ⟨k2, k3⟩, k4, k5⟩, hw, ⟨l1, l2, l3⟩, h11, hf⟩ := h
  have N250 := df.2.1.2.1
  obtain ⟨τ, t, q1, q2, q3⟩ := T39z (n := n) df po l1 k1 eM k2 l3 l2 hB hC hF h11
  have sl : ∀ s, s < 312 → slR τ s = slR σ s := fun s _ => by
    unfold slR
    rw [q3, q3, q3, q3]
  obtain ⟨po', pn', pg'⟩ := po_id po sl q2.2.2.2
  have ne : ∀ q, q < 62 → ∀ k, k < yNn w → ¬ q = cf k := fun q hq k hk e => by
    have := (ap_kc po N250 k1 hk).2
    unfold isCl at this
    omega
  exact okc_o (τ := τ) t ⟨ew_cwq po N250 k1 q2 pg', ⟨po', pn' C pn, sc, (q3 _ _).trans h15⟩, CWf_q (fun s hs => q2.1 _ _ (Or.inr (ne 51 (by decide))) (by omega) (by omega)) (q2.1 _ _ (Or.inr (ne 40 (by decide))) (by omega) (by omega)) (fun s => q2.1 _ _ (Or.inr (ne 52 (by decide))) (by omega) (by omega)) (fun s => q2.2.1 _ _) hf, q2.1 _ _ (Or.inr (ne 51 (by decide))) (by omega) (by omega), q1, (q3 _ _).trans l1⟩
/-- a way ends, another one goes on -/
theorem cw_e1 {m : Nat} (h : CWx σ C cf wf D hc w) (eM : yM w = m + 1) (hB : KB (yH w) (yNn w) B) (hC : 0 ≤ B ∧ B ≤ 50000) (hF : 0 ≤ yF w + n ∧ yF w + n ≤ B + 4000) : okc (MM 39 [mR (some 39), mI n] σ) (some (mI 1)) (fun τ => cwq τ σ ∧ gI τ 51 0 = gI σ 51 0 ∧ CW τ C (popK (w.1, (yNn w, endK (yH w) (yK w) (yF w + n)), w.2.2))) := by
  obtain ⟨df, ⟨po, pn, sc, h15⟩, ⟨k1, ⟨k2, k3⟩, k4, k5⟩, hw, ⟨l1, l2, l3⟩, h11, hf⟩ := h
  have N250 := df.2.1.2.1
  have M60 := df.2.1.2.2
  have lm : m < yM w := by omega
  obtain ⟨⟨w1, w2⟩, w3, w4, w5⟩ := hw m lm
  obtain ⟨τ, t, ⟨D1, q1, q2⟩, ⟨po', pn', pg'⟩, ⟨q4, q5, q6⟩, q7⟩ := T39w (wf := wf) (n := n) df po l1 k1 eM w1 k2 k4 l3 l2 hB hC hF h11 w5
  have ne : ∀ q, q < 62 → ∀ k, k < yNn w → ¬ q = cf k := fun q hq k hk e => by
    have := (ap_kc po N250 k1 hk).2
    unfold isCl at this
    omega
  have es := end_same (yH w) (yK w) (yF w + n)
  have e1 : yM w - 1 = m := by omega
  have dp := df_p (n := yF w + n) df (by omega)
  -- what waits stays
  have gw : ∀ j, j < yM w → ∀ wj, gR σ 59 j = some wj → ∀ q s, wj ≤ q → q < wj + 4 → gI τ q s = gI σ q s := fun j hj wj e q s h1 h2 => by
    have y := (ap_wc po (show j < 60 by omega) e).2
    unfold isCl at y
    refine q7.1 _ _ (Or.inr fun k hk => ?_) (by omega) (by omega)
    have := ap_kw po N250 k1 (show j < 60 by omega) e hk
    omega
  have cS : ∀ j, j < yM w → CSt τ (wf j) (wtS (yW w j)) := fun j hj => by
    obtain ⟨⟨u1, u2⟩, _⟩ := hw j hj
    exact CSt_q (fun s => gw j hj _ u1 _ s (by omega) (by omega)) (fun s => gw j hj _ u1 _ s (by omega) (by omega)) (fun s => gw j hj _ u1 _ s (by omega) (by omega)) (fun s => q7.2.1 _ _) u2
  have r7 : ∀ c s, isCl c → gR τ c s = gR σ c s := fun c s h => by
    unfold isCl at h
    exact q7.2.2.1 _ _ (by omega) (by omega)
  have s15 : gR τ 39 15 = some sc := (q7.2.2.1 _ _ (by omega) (by omega)).trans h15
  refine okc_o (τ := τ) t ⟨ew_cwq po N250 k1 q7 pg', q7.1 _ _ (Or.inr (ne 51 (by decide))) (by omega) (by omega), cf, wf, D1, wf m, ⟨dp, ⟨po', pn' C pn, sc, s15⟩, ⟨fun k hk => (q7.2.2.1 _ _ (by omega) (by omega)).trans (k1 k hk), ⟨q1, fun k hk => ?_⟩, fun x hx => ?_, fun a ha => ?_⟩, fun j hj => ?_, ⟨q4, ?_, ?_⟩, ?_, ?_⟩, ?_, ?_⟩
  · have hk : k < yNn w := hk
    rw [r7 _ _ (ap_kc po N250 k1 hk).2, k3 k hk]
    show _ = (fnd (fun j => decide (kA (endK (yH w) (yK w) (yF w + n) j) = kA (endK (yH w) (yK w) (yF w + n) k))) (yNn w - (k + 1)) (k + 1)).map cf
    rw [(es k).2.1, lst_e (fun j => (es j).2.1)]
  · show D1 x = true ↔ ¬ x ∈ cha (endK (yH w) (yK w) (yF w + n)) (yW w (yM w - 1)).2.2.1
    rw [e1]
    exact q2 x hx
  · show gR τ 60 a = (fnd (fun j => decide (kA (endK (yH w) (yK w) (yF w + n) j) = (a : Int))) (yNn w) 0).map cf ∧ gR τ 61 a = (lnd (fun j => decide (kA (endK (yH w) (yK w) (yF w + n) j) = (a : Int))) (yNn w)).map cf
    rw [lst_e (fun j => (es j).2.1), lsl_e (fun j => (es j).2.1), q7.2.2.1 60 a (by omega) (by omega), q7.2.2.1 61 a (by omega) (by omega)]
    exact k5 a ha
  · have hj : j < yM w - 1 := hj
    have hj2 : j < yM w := by omega
    obtain ⟨⟨u1, u2⟩, u3, u4, u5⟩ := hw j hj2
    refine ⟨⟨(q7.2.2.1 _ _ (by omega) (by omega)).trans u1, cS j hj2⟩, (gw j hj2 _ u1 _ _ (by omega) (by omega)).trans u3, (gw j hj2 _ u1 _ _ (by omega) (by omega)).trans u4, (r7 _ _ (ap_wc po (show j < 60 by omega) u1).2).trans u5⟩
  · show gI τ (wf m) 7 = (yW w (yM w - 1)).2.2.2
    rw [e1]
    exact (gw m lm _ w1 _ _ (by omega) (by omega)).trans w4
  · show gR τ (wf m) 6 = some (cf (yW w (yM w - 1)).2.2.1)
    rw [e1]
    exact (r7 _ _ (ap_wc po (show m < 60 by omega) w1).2).trans w5
  · show gI τ 39 11 = ((yM w - 1 : Nat) : Int)
    rw [e1]
    exact q6
  · exact CWf_q (σ := σ) (fun s hs => q7.1 _ _ (Or.inr (ne 51 (by decide))) (by omega) (by omega)) (q7.1 _ _ (Or.inr (ne 40 (by decide))) (by omega) (by omega)) (fun s => q7.1 _ _ (Or.inr (ne 52 (by decide))) (by omega) (by omega)) (fun s => q7.2.1 _ _) hf
  · show CSt τ (wf m) (yW w (yM w - 1)).1
    rw [e1]
    exact cS m lm
  · show gI τ (wf m) 5 = (yW w (yM w - 1)).2.1
    rw [e1]
    exact (gw m lm _ w1 _ _ (by omega) (by omega)).trans w3
end CWX
