/-! ===== side by side: load, assemble ===== -/
abbrev sfI (k s : Nat) : Prop := (k = 0 ∧ s = 1) ∨ (k = 80 ∧ (s = 1 ∨ (7 ≤ s ∧ s ≤ 37))) ∨ (87 ≤ k ∧ k ≤ 93) ∨ (18 ≤ k ∧ k ≤ 25)
abbrev sfL (k s : Nat) : Prop := (18 ≤ k ∧ k ≤ 25) ∨ (k = 80 ∧ (s = 12 ∨ s = 32)) ∨ k = 86
section PR3
variable {σ τ ρ υ : MS} {W V : WR} {E : EV} {n m k s X M : Nat} {x : Int} {p p' : Nat → B64} {w : B64}
theorem tkn_e (hE : okE E) (e : ∀ j, j < n → p j = p' j) (h : tkn E p n) : tkn E p' n := by
  obtain ⟨n0, S, f, w, h1, h2, h3⟩ := h
  exact ⟨n0, S, f, w, (frm_e e _ _ _).symm.trans h1, (plc_e e _ _).symm.trans h2, wlk_pe hE n0 e h1 h2 h3⟩
theorem in_s (ek : τ.2.2.2 = σ.2.2.2) (r1 : ∀ k s, ¬ k = 18 → gR τ k s = gR σ k s) (hb : bOk τ) (h : ∀ k s, k = 74 ∨ 153 ≤ k → gI τ k s = gI σ k s) (hs : ∀ s, s < 8 → gI τ 17 s = 0 ∨ (gI τ 17 s = gI σ 17 s ∧ gI τ 15 s = gI σ 15 s ∧ ∀ j, gL τ (7 + s) j = gL σ (7 + s) j)) (r : rIn σ) : rIn τ := by
  obtain ⟨a1, a2, ⟨B0, T0, d1, d2, d3⟩, a4, a5, a6, a7, a8⟩ := r
  have r2 : ∀ k, kd τ k = kd σ k := fun k => kd_r3 ek k
  have r3 := nC_e ek
  have r4 := tS_e ek
  have rs : ∀ s, slR τ s = slR σ s := fun s => by
    unfold slR
    rw [r1 _ _ (by decide), r1 _ _ (by decide), r1 _ _ (by decide), r1 _ _ (by decide)]
  obtain ⟨q1, q2, q3⟩ := po_id (τ := τ) a4 (fun s _ => rs s) ek
  have cc : ccn τ = ccn σ := by
    unfold ccn
    rw [show (fun s => (gR τ 73 s).isSome) = fun s => (gR σ 73 s).isSome from funext fun s => by rw [r1 _ _ (by decide)]]
  refine ⟨hb, fun s h8 h1 => ?_, ⟨B0, T0, fun s K h8 hK => ?_, fun s t K hs ht h1 h2 => ?_, ?_⟩, q1, by rw [cc]; exact q2 _ a5, by rw [r1 _ _ (by decide)]; exact a6, by rw [r1 _ _ (by decide)]; exact a7, fun s K h8 hK => ?_⟩
  · obtain ⟨z1, z2, z3⟩ := (hs s h8).resolve_left h1
    rw [z1] at h1
    rw [show (fun j => gL τ (7 + s) j) = fun j => gL σ (7 + s) j from funext z3, z2]
    obtain ⟨K, st, h1, h2, h3, h4, h5, h6⟩ := a2 s h8 h1
    exact ⟨K, st, (r1 _ _ (by decide)).trans h1, (r2 _).trans h2, h3, (h _ _ (by omega)).trans h4, h5, fun x hx => ⟨(h6 x hx).1, codQ_g (fun z => h K z (by omega)) (h6 x hx).2⟩⟩
  · rw [r1 _ _ (by decide)] at hK
    rw [r2, r3]
    exact d1 s K h8 hK
  · rw [r1 _ _ (by decide)] at h1 h2
    exact d2 s t K hs ht h1 h2
  · rw [r3, r4, cc]
    exact d3
  · rw [r1 _ _ (by decide)] at hK
    obtain ⟨o1, o2⟩ := a8 s K h8 hK
    exact ⟨by rw [r3]; exact o1, fun s c hs hc => o2 s c hs (by rw [← rs]; exact hc)⟩
/-- a reader's corner and the tape alone were touched -/
theorem rel_N (R : REL σ) (F : ∀ k s, ¬ sfI k s → gI υ k s = gI σ k s) (G : ∀ k s, ¬ sfL k s → gL υ k s = gL σ k s) (r1 : ∀ k s, ¬ k = 18 → gR υ k s = gR σ k s) (ek : υ.2.2.2 = σ.2.2.2) (hb : bOk υ) (z0 : gI υ 0 1 = 0) (z8 : gI υ 80 1 = 0) : REL υ := by
  obtain ⟨⟨⟨n, n4, h1, h2, h3⟩, q2, q3, q4, q5⟩, ⟨W, q6, q7⟩, q8, q9⟩ := R
  exact ⟨⟨⟨0, by omega, z0, z8, fun j => by rw [F 1 j (by omega), F 81 j (by omega)]; exact h3 j⟩, ot_k (fun k s z => F k s (by omega)) q2, sl_k (fun s => r1 _ _ (by omega)) (fun k s z => F k s (by omega)) (fun k s z => G k s (by omega)) q3, td_k (fun k s z => F k s (by omega)) q4, kn_k (fun k s z => F k s (by omega)) (fun k s z => G k s (by omega)) q5⟩, ⟨W, wd_k (fun k s z => F k s (by omega)) (fun k s z => G k s (by omega)) q6, tk_k (fun k s z => F k s (by omega)) (fun s => G _ _ (by omega)) q7⟩, rs_k (F _ _ (by omega)) (fun k s z => G k s (by omega)) q8, in_s ek r1 hb (fun k s z => F k s (by omega)) (fun s hs => Or.inr ⟨F _ _ (by omega), F _ _ (by omega), fun j => G _ _ (by omega)⟩) q9⟩
/-- a slot's words were told anew -/
theorem rel_S (R : REL σ) (hX : X < 8) (F : ∀ k s, ¬ (sfI k s ∨ (k = 15 ∨ k = 16 ∨ k = 17 ∨ k = 84 ∨ k = 85) ∧ s = X) → gI υ k s = gI σ k s) (G : ∀ k s, ¬ (sfL k s ∨ k = 7 + X ∨ (k = 83 ∧ 200 * X ≤ s ∧ s < 200 * X + 200)) → gL υ k s = gL σ k s) (r1 : ∀ k s, ¬ k = 18 → gR υ k s = gR σ k s) (ek : υ.2.2.2 = σ.2.2.2) (hb : bOk υ) (z0 : gI υ 0 1 = 0) (z8 : gI υ 80 1 = 0) (M2 : M ≤ 200) (g15 : gI υ 15 X = (M : Int)) (g84 : gI υ 84 X = (M : Int)) (g16 : gI υ 16 X = 0) (g17 : gI υ 17 X = 0) (g85 : gI υ 85 X = 0) (gw : ∀ i, i < M → gL υ (7 + X) i = gL υ 83 (200 * X + i)) : REL υ := by
  obtain ⟨⟨⟨n, n4, h1, h2, h3⟩, q2, ⟨s1, s2⟩, q4, q5⟩, ⟨W, q6, q7⟩, q8, q9⟩ := R
  have wm := q6.2.2.2.2.1
  refine ⟨⟨⟨0, by omega, z0, z8, fun j => by rw [F 1 j (by omega), F 81 j (by omega)]; exact h3 j⟩, ot_k (fun k s z => F k s (by omega)) q2, ⟨fun s hs => (r1 _ _ (by omega)).trans (s1 s hs), fun y hy => ?_⟩, td_k (fun k s z => F k s (by omega)) q4, kn_k (fun k s z => F k s (by omega)) (fun k s z => G k s (by omega)) q5⟩, ⟨wset W 85 X 0, ?_, ev_e (V := wset W 85 X 0) (W := W) (fun k s z => by rw [wg_wset, if_neg (by omega)]) ▸ q7.1, fun y hy z => ?_⟩, rs_k (F _ _ (by omega)) (fun k s z => G k s (by omega)) q8, in_s ek r1 hb (fun k s z => F k s (by omega)) (fun s hs => ?_) q9⟩
  · by_cases c : y = X
    · rw [c, g15, g84]
      exact ⟨rfl, by omega, fun i hi => gw i (by omega)⟩
    · obtain ⟨a1, a2, a3⟩ := s2 y hy
      rw [F 15 y (by omega), F 84 y (by omega)]
      exact ⟨a1, a2, fun i hi => by rw [G (7 + y) i (by omega), G 83 _ (by omega)]; exact a3 i hi⟩
  · obtain ⟨w1, w2, hI, w5, wm, w8⟩ := q6
    obtain ⟨k1, k2, k3, k4, k5, k6, k7, k8, k9⟩ := w2
    have pk := hI.2.2.2.1
    have v : ∀ k s, ¬ (k = 85 ∧ s = X) → wg (wset W 85 X 0) k s = wg W k s := fun k s z => by rw [wg_wset, if_neg z]
    have v0 : wg (wset W 85 X 0) 85 X = 0 := by rw [wg_wset, if_pos ⟨rfl, rfl⟩]
    refine ⟨⟨fun k s z => ?_, w1.2.1.trans (G _ _ (by omega)).symm, w1.2.2.trans (G _ _ (by omega)).symm⟩, ⟨wldM_r k1 (fun k s z => F k s (by omega)) (fun s z => F _ s (by omega)) (fun k s z => v k s (by omega)), fun i hi => (v _ _ (by omega)).trans (k2 i hi), wcV_q k3 (fun s z => F _ s (by omega)) (fun s => v _ _ (by omega)), wcQ_q k4 pk.1.2 (fun s z => F _ s (by omega)) (fun s => v _ _ (by omega)) (v _ _ (by omega)), ⟨?_, ?_, ?_⟩, fun s hs => ?_, wcX_q k7 (fun s => F _ _ (by omega)) (fun s => v _ _ (by omega)) (v _ _ (by omega)), ?_, wcL_q k9 (G _ _ (by omega)) (G _ _ (by omega)) rfl⟩, inv_pq hI (fun k s _ _ z1 => v k s (by omega)) (fun s => ?_) ?_, w5_q w5 (fun k s z => v k s (by omega)), mp_q wm (fun k s z => v k s (by omega)), k8_q w8 (fun k s z => v k s (by omega))⟩
    · by_cases c1 : k = 85 ∧ s = X
      · rw [c1.1, c1.2, v0, g85]
      · rw [v k s c1]
        exact (w1.1 k s z).trans (F k s (by omega)).symm
    · rw [v _ _ (by omega), F _ _ (by omega)]
      exact k5.1
    · rw [v _ _ (by omega), F _ _ (by omega)]
      exact k5.2.1
    · rw [v _ _ (by omega), F _ _ (by omega)]
      exact k5.2.2
    · by_cases c1 : s = X
      · rw [c1, v0, g16]
      · rw [v 85 s (by omega), F 16 s (by omega)]
        exact k6 s hs
    · rw [v _ _ (by omega), v _ _ (by omega), F _ _ (by omega), F _ _ (by omega)]
      exact k8
    · rw [v _ _ (by omega)]
      exact hI.2.2.1 144 s (by omega)
    · rw [v _ _ (by omega), v _ _ (by omega), v _ _ (by omega)]
      exact pk
  · have c : ¬ y = X := fun e => z (by rw [e]; exact g85)
    rw [F 85 y (by omega)] at z
    rw [F 84 y (by omega), ev_e (V := wset W 85 X 0) (W := W) (fun k s z => by rw [wg_wset, if_neg (by omega)])]
    refine tkn_e (ev_ok wm) (fun j hj => ?_) (q7.2 y hy z)
    have := (s2 y hy).2.1
    exact (G 83 _ (by omega)).symm
  · by_cases c : s = X
    · rw [c]
      exact Or.inl g17
    · exact Or.inr ⟨F _ _ (by omega), F _ _ (by omega), fun j => G _ _ (by omega)⟩
theorem tp_w (h : ∀ j, gI σ 1 j = gI τ 81 j) (s : Nat) : tpW σ 1 s 8 = tpW τ 81 s 8 := by
  unfold tpW
  refine List.map_congr_left fun j _ => ?_
  rw [h]
theorem pr_3 (R : REL σ) : pI 296 346 [mI x] σ := by
  obtain ⟨n, n4, h1, h2, h3⟩ := rel_tp R
  by_cases h : (x < 0 ∨ 8 ≤ x) ∨ ¬ ldOk n
  · exact ⟨_, _, _, T296n h1 n4 h, T346n (σ := sI σ 0 1 0) (n := n) (by rw [gI_sI, if_neg (by decide)]; exact h2) n4 h, rel_0 R (n := 0) (by omega)⟩
  · obtain ⟨X, hX, rfl⟩ := nat8 (x := x) (fun z => h (Or.inl z))
    have ok : ldOk n := by
      by_cases c : ldOk n
      · exact c
      · exact absurd (Or.inr c) h
    obtain ⟨s1, s2⟩ := rel_sl R
    obtain ⟨τ, t, t1, t2, t3⟩ := T296 hX (s1 X hX) h1 ok
    have g : ∀ k s, gI τ k s = if k = 17 ∧ s = X then 0 else if k = 16 ∧ s = X then 0 else if k = 15 ∧ s = X then ((n / 8 : Nat) : Int) else if k = 0 ∧ s = 1 then 0 else gI σ k s := fun k s => by
      have e : gI τ k s = gI (sI (sI (sI (sI σ 0 1 0) 15 X ((n / 8 : Nat) : Int)) 16 X 0) 17 X 0) k s := by
        unfold gI
        rw [t1]
      rw [e, gI_sI, gI_sI, gI_sI, gI_sI]
    obtain ⟨υ, t', t1', t2', t3'⟩ := T346 (σ := τ) (n := n) hX (by rw [g, if_neg (by omega), if_neg (by omega), if_neg (by omega), if_neg (by omega)]; exact h2) ok
    have g' : ∀ k s, gI υ k s = if k = 85 ∧ s = X then 0 else if k = 84 ∧ s = X then ((n / 8 : Nat) : Int) else if k = 80 ∧ s = 1 then 0 else gI τ k s := fun k s => by
      have e : gI υ k s = gI (sI (sI (sI τ 80 1 0) 84 X ((n / 8 : Nat) : Int)) 85 X 0) k s := by
        unfold gI
        rw [t1']
      rw [e, gI_sI, gI_sI, gI_sI]
    have nb : n / 8 ≤ 200 := by
      have := ok.2.1
      omega
    have e2 : υ.2.2 = σ.2.2 := t2'.trans t2
    refine ⟨_, τ, υ, t, t', rel_S (M := n / 8) R hX (fun k s z => ?_) (fun k s z => ?_) (fun k s _ => (rt_R e2).1 k s) (by rw [e2]) (MM_b (MM_b (rel_b R) t) t') ?_ ?_ nb ?_ ?_ ?_ ?_ ?_ (fun i hi => ?_)⟩
    · rw [g', if_neg (by omega), if_neg (by omega), if_neg (by omega), g, if_neg (by omega), if_neg (by omega), if_neg (by omega), if_neg (by omega)]
    · rw [t3', if_neg (by omega), t3, if_neg (by omega)]
    · rw [g', if_neg (by omega), if_neg (by omega), if_neg (by omega), g, if_neg (by omega), if_neg (by omega), if_neg (by omega), if_pos ⟨rfl, rfl⟩]
    · rw [g', if_neg (by omega), if_neg (by omega), if_pos ⟨rfl, rfl⟩]
    · rw [g', if_neg (by omega), if_neg (by omega), if_neg (by omega), g, if_neg (by omega), if_neg (by omega), if_pos ⟨rfl, rfl⟩]
    · rw [g', if_neg (by omega), if_pos ⟨rfl, rfl⟩]
    · rw [g', if_neg (by omega), if_neg (by omega), if_neg (by omega), g, if_neg (by omega), if_pos ⟨rfl, rfl⟩]
    · rw [g', if_neg (by omega), if_neg (by omega), if_neg (by omega), g, if_pos ⟨rfl, rfl⟩]
    · rw [g', if_pos ⟨rfl, rfl⟩]
    · rw [t3', if_neg (by omega), t3, if_pos ⟨rfl, hi⟩, t3', if_pos ⟨rfl, by omega, by omega⟩, show 200 * X + i - 200 * X = i by omega]
      rw [tp_w (σ := σ) (τ := τ) fun j => by rw [h3 j, g 81 j, if_neg (by omega), if_neg (by omega), if_neg (by omega), if_neg (by omega)]]
theorem pr_2 (R : REL σ) : pI 295 366 [mI x] σ := by
  obtain ⟨n, n4, h1, h2, h3⟩ := rel_tp R
  by_cases h : x < 0 ∨ 8 ≤ x
  · have t := T295n (σ := σ) h
    obtain ⟨υ, t', o1, o2, o3, o4⟩ := T366n (σ := sI σ 0 1 0) (x := x) (by omega)
    refine ⟨_, _, υ, t, t', rel_N R (fun k s z => ?_) (fun k s z => o2 k s (by omega) (by omega)) (fun k s _ => (rt_R o3).1 k s) (by rw [o3]; rfl) (MM_b (MM_b (rel_b R) t) t') ?_ o4⟩
    · rw [o1 k s (by omega) (by omega), gI_sI, if_neg (by omega)]
    · rw [o1 0 1 (by omega) (by omega), gI_sI, if_pos ⟨rfl, rfl⟩]
  · obtain ⟨X, hX, rfl⟩ := nat8 h
    obtain ⟨s1, s2⟩ := rel_sl R
    have bt : ∀ j, -128 ≤ gI σ 1 j ∧ gI σ 1 j < 128 := fun j => rel_b R 1 j rfl
    obtain ⟨τ, t, o⟩ := T295 (t := fun j => gI σ 1 j) hX (s1 X hX) h1 n4 (fun j => rfl) bt
    have F0 : ∀ k s, ¬ (k = 0 ∧ s = 1) → ¬ (18 ≤ k ∧ k ≤ 25) → ¬ ((k = 15 ∨ k = 16 ∨ k = 17) ∧ s = X) → gI τ k s = gI σ k s := fun k s z1 z2 z3 => by
      cases e : pAsm (fun j => gI σ 1 j) n with
      | inl a =>
        rw [e] at o
        have o : cold σ τ := o
        exact o.1 k s z1 z2
      | inr q =>
        rw [e] at o
        have o : cnew σ X q.1 q.2 τ := o
        exact o.2.1 k s z1 z2 z3
    obtain ⟨υ, t', o'⟩ := T366 (σ := τ) (t := fun j => gI σ 1 j) hX ((F0 80 1 (by omega) (by omega) (by omega)).trans h2) n4 (fun j => by rw [F0 81 j (by omega) (by omega) (by omega)]; exact (h3 j).symm) bt
    have bυ := MM_b (MM_b (rel_b R) t) t'
    have r18 : ∀ k s, ¬ k = 18 → gR (sR σ 18 2 (some 1)) k s = gR σ k s := fun k s z => by rw [gR_sR, if_neg (fun y => z y.1)]
    cases e : pAsm (fun j => gI σ 1 j) n with
    | inl a =>
      rw [e] at o o'
      have o : cold σ τ := o
      have o' : oldC τ υ := o'
      obtain ⟨a1, a2, a3, a4⟩ := o
      obtain ⟨b1, b2, b3, b4⟩ := o'
      have e2 : υ.2.2 = (sR σ 18 2 (some 1)).2.2 := b3.trans a3
      exact ⟨_, τ, υ, t, t', rel_N R (fun k s z => (b1 k s (by omega) (by omega)).trans (a1 k s (by omega) (by omega))) (fun k s z => (b2 k s (by omega) (by omega)).trans (a2 k s (by omega))) (fun k s z => ((rt_R e2).1 k s).trans (r18 k s z)) (by rw [e2]; rfl) bυ ((b1 _ _ (by omega) (by omega)).trans a4) b4⟩
    | inr q =>
      rw [e] at o o'
      have o : cnew σ X q.1 q.2 τ := o
      have o' : newC τ X q.1 q.2 υ := o'
      obtain ⟨⟨a1, a2, a3, a4⟩, a5, a6, a7, a8⟩ := o
      obtain ⟨b1, b2, b3, b4, b5, b6, b7⟩ := o'
      have e2 : υ.2.2 = (sR σ 18 2 (some 1)).2.2 := b6.trans a7
      have M2 := (pAsm_b.2 q e).2
      refine ⟨_, τ, υ, t, t', rel_S (M := q.1) R hX (fun k s z => (b4 k s (by omega) (by omega) (by omega)).trans (a5 k s (by omega) (by omega) (by omega))) (fun k s z => (b5 k s (by omega) (by omega) (by omega)).trans (a6 k s (by omega) (by omega))) (fun k s z => ((rt_R e2).1 k s).trans (r18 k s z)) (by rw [e2]; rfl) bυ ((b4 _ _ (by omega) (by omega) (by omega)).trans a8) b7 M2 ((b4 _ _ (by omega) (by omega) (by omega)).trans a1) b1 ((b4 _ _ (by omega) (by omega) (by omega)).trans a2) ((b4 _ _ (by omega) (by omega) (by omega)).trans a3) b2 (fun i hi => ?_)⟩
      rw [b3 i hi, b5 (7 + X) i (by omega) (by omega) (by omega)]
      exact a4 i hi
end PR3
