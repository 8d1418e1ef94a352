/-! ===== the class's walk against the pure walk: keep ===== -/
section CKP3
variable {τ σ ρ : MS} {cf wf cf' : Nat → Nat} {D : Nat → Bool} {hc q s k j a sc : Nat} {w : WK} {C B n F b G T : Int} {S : ST} {K K' : Nat → KT} {x : KT} {N M : Nat} {W : Nat → WT} {R : Int × Int × (Int → Option ST)} {E : EV} {t : Int}
/-- the frame of keep -/
theorem kp_cwq {c : Nat} {l : Option Nat} (po : POOL σ) (N250 : N < 250) (h14 : gR σ 39 14 = some hc) (hl : ∀ x, l = some x → ∃ k, k < 250 ∧ gR σ 58 k = some x) (fr : kpq τ σ c hc N a l) (r58 : gR τ 58 N = some c) (pn : PCN τ C) (pg : pgr τ σ) : cwq τ σ := by
  obtain ⟨f1, f2, f3, f4⟩ := fr
  have nc : ∀ q, oth σ q → ¬ (c ≤ q ∧ q < c + 4) := fun q o => (pgr_o pg pn o).2 (2 + N) c (by omega) ((sR_kp N250).trans r58)
  have nh : ∀ q, oth σ q → ¬ q = hc := fun q o e => o.2 0 hc (by decide) (sR_z.trans h14) (by omega)
  refine ⟨fun q s o p => ⟨f1 q s (nc q o) (fun z => nh q o z.1) (by omega), f2 q s (nc q o), f3 q s (nc q o) (by omega) (fun z => nh q o z.1) (by omega) (fun _ => by omega) (fun y ey z => ?_)⟩, fun q o => f4 q (nc q o), pg⟩
  obtain ⟨k, hk, ek⟩ := hl y ey
  exact o.2 (2 + k) y (by omega) ((sR_kp hk).trans ek) (by omega)
theorem cha_k (h1 : wfB K N) (hk : k < N) (hb : kB x = (k : Int)) : cha (upK K N x) N = N :: cha K k := by
  have g : ∀ j, j < N → upK K N x j = K j := fun j hj => if_neg (by omega)
  have gn : upK K N x N = x := if_pos rfl
  have wf : wfB (upK K N x) (N + 1) := fun j hj => by
    by_cases e : j = N
    · rw [e, gn, hb]
      omega
    · rw [g j (by omega)]
      exact h1 j (by omega)
  have ce : ∀ k : Nat, k < N → cha (upK K N x) k = cha K k := by
    intro k
    induction k using Nat.strongRecOn with
    | ind k ih =>
      intro hk
      by_cases z : 0 ≤ kB (K k)
      · have w' := h1 k hk
        have z' : 0 ≤ kB (upK K N x k) := by rw [g k hk]; exact z
        rw [cha_c wf (by omega) z', cha_c h1 hk z, g k hk, ih (kB (K k)).toNat (by omega) (by omega)]
      · rw [cha_n (K := upK K N x) (by rw [g k hk]; exact z), cha_n z]
  rw [cha_c wf (by omega) (by rw [gn, hb]; omega), gn, hb, Int.toNat_natCast, ce _ hk]
/-- keep, from what is so of a store -/
theorem cw_kp (po : POOL σ) (pn : PCN σ C) (h15 : gR σ 39 15 = some sc) (h14 : gR σ 39 14 = some hc) (N250 : N < 250) (hk : ∀ k, k < N → gR σ 58 k = some (cf k)) (hK : KC σ cf K N D) (hF : KF σ cf K N) (hB : ∀ j, j < N → kB (K j) < (j : Int)) (hb : b < (N : Int)) (hb0 : N = 0 → b < 0)
    (h60 : ∀ b : Nat, b < 200 → gR σ 60 b = (fnd (fun j => decide (kA (K j) = (b : Int))) N 0).map cf ∧ gR σ 61 b = (lnd (fun j => decide (kA (K j) = (b : Int))) N).map cf) (hW : CWw σ cf wf w) (hM : yM w ≤ 60) (hWk : ∀ j, j < yM w → wtK (yW w j) < N)
    (cS : CSt σ hc S) (g5 : gI σ hc 5 = (a : Int)) (g7 : gI σ hc 7 = F) (g6 : gR σ hc 6 = (if 0 ≤ b then some (cf b.toNat) else none)) (ha : a < 200) (F1 : 1 ≤ sF S ∧ sF S ≤ 4) (hH : (sH S).length ≤ 64) (h11 : gI σ 39 11 = (yM w : Int)) (f1 : gI σ 51 1 = G) (f2 : gI σ 51 2 = (N : Int)) (f4 : gI σ 51 4 = w.2.2.2.1) (f5 : gI σ 51 5 = w.2.2.2.2.1) (f8 : gI σ 40 8 = T) (kn : KNc σ w.2.2.2.2.2)
    (hD : ∀ x, x < N + 1 → ((if x = N then false else D x) = true ↔ ¬ x ∈ cha (upK K N (S, (a : Int), b, F, 1, 0)) N)) (df : dfI ((S, (a : Int), N, 0, G, T), (N + 1, upK K N (S, (a : Int), b, F, 1, 0)), w.2.2)) :
    okc (MM 38 [mR (some 39)] σ) none (fun τ => cwq τ σ ∧ gI τ 51 0 = gI σ 51 0 ∧ CW τ C ((S, (a : Int), N, 0, G, T), (N + 1, upK K N (S, (a : Int), b, F, 1, 0)), w.2.2)) := by
  have hl : ∀ x, gR σ hc 6 = some x → ∃ k, k < 250 ∧ ¬ k = N ∧ gR σ 58 k = some x := fun x e => by
    rw [g6] at e
    by_cases z : 0 ≤ b
    · rw [if_pos z] at e
      exact ⟨b.toNat, by omega, by omega, by rw [← e]; exact hk _ (by omega)⟩
    · rw [if_neg z] at e
      cases e
  obtain ⟨h0, h1⟩ := h60 a ha
  have hl2 : ∀ x, (lnd (fun j => decide (kA (K j) = (a : Int))) N).map cf = some x → ∃ k, k < 250 ∧ ¬ k = N ∧ gR σ 58 k = some x := fun x e => by
    obtain ⟨m, em, emy⟩ := Option.map_eq_some_iff.mp e
    have l := (lnd_b _ em).1
    exact ⟨m, by omega, by omega, by rw [hk m l, emy]⟩
  obtain ⟨c, τ, t, ⟨r58, n1, n2⟩, ⟨c1, ⟨c5, c7, c9, c10⟩, c6, c8⟩, ⟨d6, d7, d2⟩, ⟨e1, e0, ex⟩, fr, ⟨po', pn', pg'⟩, so, far⟩ := T38 po pn N250 f2 h14 cS F1 hH hl ha g5 h1 hl2
  have hcl := (po.1 0 hc (by decide) (sR_z.trans h14)).2
  have fr' := fr
  obtain ⟨u1, u2, u3, u4⟩ := fr
  have hcl' := hcl
  unfold isCl at hcl'
  have n2' := n2
  unfold isCl at n2'
  have sk : ∀ k, k < N → stC (cf k) := fun k h => (hK k h).1.2
  have ndx : ∀ y, (lnd (fun j => decide (kA (K j) = (a : Int))) N).map cf = some y → ¬ y = 39 ∧ ¬ y = 58 ∧ ¬ y = 59 := fun y e => by
    obtain ⟨m, em, emy⟩ := Option.map_eq_some_iff.mp e
    have := sk m (lnd_b _ em).1
    omega
  have r3 : ∀ q s, (q = 39 ∨ q = 59 ∨ (q = 58 ∧ ¬ s = N)) → gR τ q s = gR σ q s := fun q s h => u3 q s (by omega) (by omega) (by omega) (by omega) (fun _ => by omega) (fun y e => by have := ndx y e; omega)
  have dh := far 0 hc (by decide) (by omega) (sR_z.trans h14)
  have ns : CSt τ hc S := CSt_h (u1 _ _ (by omega) (by omega) (by omega)) (u1 _ _ (by omega) (by omega) (by omega)) (fun s => u1 _ _ (by omega) (by omega) (by omega)) (fun s => u1 _ _ (by omega) (by omega) (by omega)) (fun s => u2 _ _ (by omega)) cS
  have i51 : ∀ s, ¬ s = 2 → gI τ 51 s = gI σ 51 s := fun s h => u1 _ _ (by omega) (by omega) (by omega)
  have ex' : kA ((S, (a : Int), b, F, 1, 0) : KT) = (a : Int) := rfl
  refine okc_o (τ := τ) t ⟨kp_cwq po N250 h14 (fun x e => by
    obtain ⟨k, p1, _, p3⟩ := hl2 x e
    exact ⟨k, p1, p3⟩) fr' r58 pn' pg', i51 0 (by decide), fun k => if k = N then c else cf k, wf, fun k => if k = N then false else D k, hc, ⟨df, ⟨po', pn', sc, (r3 _ _ (Or.inl rfl)).trans h15⟩, ⟨fun k hkN => ?_, ⟨?_, ?_⟩, hD, fun b' hb' => ?_⟩, fun j hj => ?_, ⟨(r3 _ _ (Or.inl rfl)).trans h14, d7, ?_⟩, ?_, ⟨⟨(i51 _ (by decide)).trans f1, d2, (i51 _ (by decide)).trans f4, (i51 _ (by decide)).trans f5⟩, (u1 _ _ (by omega) (by omega) (by omega)).trans f8, KN_c (fun s => u1 _ _ (by omega) (by omega) (by omega)) (fun s => u2 _ _ (by omega)) kn⟩⟩, ns, (u1 _ _ (by omega) (by omega) (by omega)).trans g5⟩
  · have hkN : k < N + 1 := hkN
    show gR τ 58 k = some (if k = N then c else cf k)
    by_cases e : k = N
    · rw [if_pos e, e]
      exact r58
    · rw [if_neg e, r3 _ _ (by omega)]
      exact hk k (by omega)
  · exact kp_KC (F := F) (a := a) (x := (S, (a : Int), b, F, 1, 0)) po N250 h14 hk hK far fr' ⟨n1, n2⟩ ⟨c1, ⟨c5, c7.trans g7, c9, c10⟩, c6.trans g6⟩ rfl hb hB
  · exact kp_KF (a := a) (x := (S, (a : Int), b, F, 1, 0)) po N250 h14 hk sk hF far n2 fr' c8 ex ex'
  · exact kp_fl (x := (S, (a : Int), b, F, 1, 0)) n2 sk hcl h60 fr' e1 e0 ex' hb'
  · have hj : j < yM w := hj
    obtain ⟨⟨v1, v2⟩, v3, v4, v5⟩ := hW j hj
    have sj : slR σ (252 + j) = some (wf j) := sR_wt.trans v1
    have dj := far (252 + j) (wf j) (by omega) (by omega) sj
    have djh := po.2 (252 + j) 0 _ _ (by omega) (by decide) (by omega) sj (sR_z.trans h14)
    have cj := (po.1 _ _ (by omega) sj).2
    unfold isCl at cj
    have gi : ∀ q s, wf j ≤ q → q < wf j + 4 → gI τ q s = gI σ q s := fun q s h1 h2 => u1 q s (by omega) (by omega) (by omega)
    have lk := hWk j hj
    refine ⟨⟨(r3 _ _ (by omega)).trans v1, CSt_q (fun s => gi _ _ (by omega) (by omega)) (fun s => gi _ _ (by omega) (by omega)) (fun s => gi _ _ (by omega) (by omega)) (fun s => u2 _ _ (by omega)) v2⟩, (gi _ _ (by omega) (by omega)).trans v3, (gi _ _ (by omega) (by omega)).trans v4, ?_⟩
    show gR τ (wf j) 6 = some (if wtK (yW w j) = N then c else cf (wtK (yW w j)))
    rw [if_neg (by omega), u3 (wf j) 6 (by omega) (by omega) (by omega) (by omega) (fun _ => by omega) (fun y _ => by omega)]
    exact v5
  · show gR τ hc 6 = some (if N = N then c else cf N)
    rw [if_pos rfl]
    exact d6
  · exact (u1 _ _ (by omega) (by omega) (by omega)).trans h11
/-- a state is kept -/
theorem cw_keep (h : CWx σ C cf wf D hc w) (hh : CWh σ w hc) (hn : yNn w < 250) (hB : KB (yH w) (yNn w) B) (F1 : 1 ≤ sF (yS w) ∧ sF (yS w) ≤ 4) (hH : (sH (yS w)).length ≤ 64) (ha : 0 ≤ yA w ∧ yA w < 200) :
    okc (MM 38 [mR (some 39)] σ) none (fun τ => cwq τ σ ∧ gI τ 51 0 = gI σ 51 0 ∧ CW τ C ((yS w, yA w, yNn w, 0, yG w, yT w), (yNn w + 1, upK (yH w) (yNn w) (yS w, yA w, (yK w : Int), yF w, 1, 0)), w.2.2)) := by
  obtain ⟨df, ⟨po, pn, sc, h15⟩, ⟨k1, ⟨k2, k3⟩, k4, k5⟩, hw, ⟨l1, l2, l3⟩, h11, ⟨⟨f1, f2, f4, f5⟩, f8, fk⟩⟩ := h
  obtain ⟨a, ea⟩ : ∃ a : Nat, yA w = (a : Int) := ⟨(yA w).toNat, by omega⟩
  have yk := df.2.1.1
  have dk := df_k (x := (yS w, yA w, (yK w : Int), yF w, 1, 0)) (s := yS w) (i := yA w) (F := 0) (G := yG w) (T := yT w) (R := w.2.2.2) df hn rfl rfl
  rw [ea] at dk ⊢
  refine cw_kp (b := (yK w : Int)) po pn h15 l1 hn k1 k2 k3 df.1 (by omega) (fun z => by omega) k5 hw df.2.1.2.2 (fun j hj => df.2.2.2.1 j hj) hh.1 (hh.2.trans ea) l2 ?_ (by omega) F1 hH h11 f1 f2 f4 f5 f8 fk (fun x hx => ?_) dk
  · rw [if_pos (Int.natCast_nonneg _), Int.toNat_natCast]
    exact l3
  · rw [cha_k df.1 yk rfl]
    by_cases e : x = yNn w
    · rw [if_pos e, e]
      exact ⟨fun z => (by cases z), fun z => absurd List.mem_cons_self z⟩
    · rw [if_neg e, k4 x (by omega)]
      exact ⟨fun z q => by
        rcases List.mem_cons.mp q with r | r
        · exact e r
        · exact z r, fun z q => z (List.mem_cons_of_mem _ q)⟩
end CKP3
