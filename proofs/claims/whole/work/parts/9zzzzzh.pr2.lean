/-! ===== side by side: packet, given, mark, tear, load, assemble ===== -/
section PR2
variable {σ τ ρ υ : MS} {W V : WR} {E : EV} {n m k s X : Nat} {a b c d e x y z i r : Int} {p p' : Nat → B64} {w : B64}
theorem inv_pq (hI : invW W) (h : ∀ k s, ¬ k = 80 → ¬ k = 144 → ¬ k = 85 → wg V k s = wg W k s) (b : ∀ s, -128 ≤ wg V 144 s ∧ wg V 144 s < 128) (c : (0 ≤ wg V 80 105 ∧ wg V 80 105 ≤ 256) ∧ (0 ≤ wg V 80 113 ∧ wg V 80 113 ≤ 2000) ∧ (0 ≤ wg V 80 110 ∧ wg V 80 110 ≤ 8)) : invW V := by
  obtain ⟨h1, h2, h3, h4, h5, h6, h7⟩ := hI
  refine ⟨fun m hm => ?_, fun m e hm he => ?_, fun k s hk => ?_, c, fun i hi hh => ?_, fun m hm => ?_, fun m x hm hx => ?_⟩
  · rw [h 97 _ (by omega) (by omega) (by omega), h 98 _ (by omega) (by omega) (by omega), h 99 _ (by omega) (by omega) (by omega), h 101 _ (by omega) (by omega) (by omega), h 96 _ (by omega) (by omega) (by omega)]
    exact h1 m hm
  · rw [h 101 _ (by omega) (by omega) (by omega)] at he
    rw [h 103 _ (by omega) (by omega) (by omega)]
    exact h2 m e hm he
  · by_cases q : k = 144
    · rw [q]
      exact b s
    · rw [h k _ (by omega) q (by omega)]
      exact h3 k s hk
  · rw [h 152 _ (by omega) (by omega) (by omega)] at hh
    rw [h 151 _ (by omega) (by omega) (by omega), h 150 _ (by omega) (by omega) (by omega)]
    exact h5 i hi hh
  · rw [h 99 _ (by omega) (by omega) (by omega), h 107 _ (by omega) (by omega) (by omega), hld_e (V := V) (W := W) (fun s => h _ _ (by omega) (by omega) (by omega)) (fun s => h _ _ (by omega) (by omega) (by omega))]
    exact h6 m hm
  · rw [h 106 _ (by omega) (by omega) (by omega)]
    exact h7 m x hm hx
theorem mp_q (hM : MP W) (h : ∀ k s, (95 ≤ k ∧ k ≤ 99) ∨ k = 106 → wg V k s = wg W k s) : MP V := fun m hm => by
  rw [h 95 _ (by omega), h 96 _ (by omega), h 97 _ (by omega), h 98 _ (by omega), h 99 _ (by omega)]
  exact ⟨(hM m hm).1, fun x hx => by rw [h 106 _ (by omega)]; exact (hM m hm).2 x hx⟩
theorem w5_q (h5 : W5 W) (h : ∀ k s, k = 104 ∨ k = 105 → wg V k s = wg W k s) : W5 V := fun t ht => by
  rw [h 104 _ (by omega), h 105 _ (by omega)]
  exact h5 t ht
/-- the world's own cells are told anew, maps and records stay -/
theorem rel_Y (R : REL σ) (F : ∀ k s, rlJ k s → gI υ k s = gI σ k s) (G : ∀ k s, ¬ ((k = 71 ∧ s = 13) ∨ (k = 80 ∧ s = 108)) → gL υ k s = gL σ k s) (e : υ.2.2 = σ.2.2) (hb : bOk υ) (tp : rTp υ) (ot : rOt υ) (wd : ∀ W, rWd σ W → ∃ V, rWd υ V ∧ ∀ k s, 95 ≤ k ∧ k ≤ 98 → wg V k s = wg W k s) : REL υ := by
  obtain ⟨W, q6, q7⟩ := R.2.1
  obtain ⟨V, v1, v2⟩ := wd W q6
  exact rel_W R F G e hb tp ot ⟨V, v1, by rw [ev_e v2]; exact tk_k (fun k s z => F k s (by omega)) (fun s => G _ _ (by omega)) q7⟩
/-! packet -/
def pakW (W : WR) (n : Nat) (υ : MS) : WR := (fun k s => if k = 80 ∧ s = 105 then (n : Int) else if k = 144 ∧ s < n then gI υ 144 s else W.1 k s, W.2)
theorem pkW (k s : Nat) : wg (pakW W n υ) k s = if k = 80 ∧ s = 105 then (n : Int) else if k = 144 ∧ s < n then gI υ 144 s else wg W k s := rfl
theorem pr_21 (R : REL σ) : pI 314 537 [] σ := by
  obtain ⟨n, n4, h1, h2, h3⟩ := rel_tp R
  by_cases hn : n ≤ 256
  · obtain ⟨τ, hτ⟩ : ∃ τ, τ = sI (cpI (sI σ 0 1 0) 1 0 27 0 (n : Int)) 71 10 (n : Int) := ⟨_, rfl⟩
    have t := T314 h1 hn
    rw [← hτ] at t
    have g : ∀ k s, gI τ k s = if k = 71 ∧ s = 10 then (n : Int) else if k = 27 ∧ s < n then gI σ 1 s else if k = 0 ∧ s = 1 then 0 else gI σ k s := fun k s => by
      rw [hτ, gI_sI, cpI_g, gI_sI, gI_sI, if_neg (show ¬ (1 = 0 ∧ s = 1) by omega)]
      by_cases q : k = 27 ∧ s < n
      · rw [if_pos q, if_pos (show k = 27 ∧ (s : Int) < (n : Int) by omega)]
      · rw [if_neg q, if_neg (show ¬ (k = 27 ∧ (s : Int) < (n : Int)) by omega)]
    have e1 : τ.2 = σ.2 := by rw [hτ]; rfl
    obtain ⟨υ, t', e2, g'⟩ := T537 (σ := τ) (n := n) (by rw [g, if_neg (by omega), if_neg (by omega), if_neg (by omega)]; exact h2) hn
    have bυ := MM_b (MM_b (rel_b R) t) t'
    have F : ∀ k s, ¬ ((k = 0 ∧ s = 1) ∨ (k = 80 ∧ (s = 1 ∨ s = 105)) ∨ (k = 144 ∧ s < n) ∨ (k = 71 ∧ s = 10) ∨ (k = 27 ∧ s < n)) → gI υ k s = gI σ k s := fun k s z => by
      rw [g', if_neg (by omega), if_neg (by omega), if_neg (by omega), g, if_neg (by omega), if_neg (by omega), if_neg (by omega)]
    refine ⟨_, τ, υ, t, t', rel_Y R (fun k s z => F k s (by omega)) (fun k s _ => gL_e (e2.trans e1) k s) (by rw [e2, e1]) bυ ⟨0, by omega, ?_, ?_, fun j => ?_⟩ (ot_k (fun k s z => F k s (by omega)) (rel_ot R)) fun W q => ⟨pakW W n υ, ?_, fun k s z => by rw [pkW, if_neg (by omega), if_neg (by omega)]⟩⟩
    · rw [g', if_neg (by omega), if_neg (by omega), if_neg (by omega), g, if_neg (by omega), if_neg (by omega), if_pos ⟨rfl, rfl⟩]
      rfl
    · rw [g', if_neg (by omega), if_neg (by omega), if_pos ⟨rfl, rfl⟩]
      rfl
    · rw [F 1 j (by omega), F 81 j (by omega)]
      exact h3 j
    · obtain ⟨w1, w2, hI, w5, wm, w8⟩ := q
      have pk := hI.2.2.2.1
      have v : ∀ k s, ¬ (k = 80 ∧ s = 105) → ¬ (k = 144 ∧ s < n) → wg (pakW W n υ) k s = wg W k s := fun k s z1 z2 => by rw [pkW, if_neg z1, if_neg z2]
      have v5 : wg (pakW W n υ) 80 105 = (n : Int) := by rw [pkW, if_pos ⟨rfl, rfl⟩]
      have v4 : ∀ s, s < n → wg (pakW W n υ) 144 s = gI υ 144 s := fun s hs => by rw [pkW, if_neg (by omega), if_pos ⟨rfl, hs⟩]
      obtain ⟨k1, k2, k3, k4, k5, k6, k7, k8, k9⟩ := w2
      refine ⟨⟨fun k s z => ?_, w1.2.1.trans (gL_e (e2.trans e1) _ _).symm, w1.2.2.trans (gL_e (e2.trans e1) _ _).symm⟩, ⟨wldM_r k1 (fun k s z => F k s (by omega)) (fun s z => F _ s (by omega)) (fun k s z => v k s (by omega) (by omega)), fun i hi => (v _ _ (by omega) (by omega)).trans (k2 i hi), wcV_q k3 (fun s z => F _ s (by omega)) (fun s => v _ _ (by omega) (by omega)), fun s hs => ?_, ⟨?_, ?_, ?_⟩, wcG_q k6 (fun s => F _ _ (by omega)) (fun s => v _ _ (by omega) (by omega)), wcX_q k7 (fun s => F _ _ (by omega)) (fun s => v _ _ (by omega) (by omega)) (v _ _ (by omega) (by omega)), ?_, wcL_q k9 (gL_e (e2.trans e1) _ _) (gL_e (e2.trans e1) _ _) rfl⟩, inv_pq hI (fun k s z1 z2 _ => v k s (by omega) (by omega)) (fun s => ?_) ?_, w5_q w5 (fun k s z => v k s (by omega) (by omega)), mp_q wm (fun k s z => v k s (by omega) (by omega)), k8_q w8 (fun k s z => v k s (by omega) (by omega))⟩
      · by_cases c1 : k = 80 ∧ s = 105
        · rw [c1.1, c1.2, v5, g', if_pos ⟨rfl, rfl⟩]
        · by_cases c2 : k = 144 ∧ s < n
          · rw [c2.1, v4 s c2.2]
          · rw [v k s c1 c2]
            exact (w1.1 k s z).trans (F k s (by omega)).symm
      · rw [v5] at hs
        have hs' : s < n := by omega
        rw [v4 s hs', g', if_neg (by omega), if_pos ⟨rfl, hs'⟩, g 81 s, if_neg (by omega), if_neg (by omega), if_neg (by omega), ← h3 s, g', if_neg (by omega), if_neg (by omega), if_neg (by omega), g 27 s, if_neg (by omega), if_pos ⟨rfl, hs'⟩]
        have bb := rel_b R 1 s rfl
        exact w8_i bb.1 bb.2
      · rw [v5, g', if_neg (by omega), if_neg (by omega), if_neg (by omega), g, if_pos ⟨rfl, rfl⟩]
      · rw [v _ _ (by omega) (by omega), F _ _ (by omega)]
        exact k5.2.1
      · rw [v _ _ (by omega) (by omega), F _ _ (by omega)]
        exact k5.2.2
      · rw [v _ _ (by omega) (by omega), v _ _ (by omega) (by omega), F _ _ (by omega), F _ _ (by omega)]
        exact k8
      · by_cases c2 : s < n
        · rw [v4 s c2]
          exact bυ 144 s rfl
        · rw [v _ _ (by omega) (by omega)]
          exact hI.2.2.1 144 s (by omega)
      · rw [v5, v _ _ (by omega) (by omega), v _ _ (by omega) (by omega)]
        exact ⟨by omega, pk.2⟩
  · exact ⟨_, _, _, T314n h1 (by omega), T537n (σ := sI σ 0 1 0) (n := n) (by rw [gI_sI, if_neg (by decide)]; exact h2) (by omega), rel_0 R (n := 0) (by omega)⟩
/-! given, mark, tear -/
theorem pr_24 (R : REL σ) (hx : -2147483648 ≤ x ∧ x < 2147483648) : pV 317 540 [mI x, mI y] σ := by
  have t := T317 (σ := σ) (x := x) (y := y)
  have t' := T540 (σ := sI (sI σ 71 11 x) 71 12 y) (x := x) (y := y)
  have g : ∀ k s, gI (sI (sI (sI (sI σ 71 11 x) 71 12 y) 80 106 x) 80 107 y) k s = if k = 80 ∧ s = 107 then y else if k = 80 ∧ s = 106 then x else if k = 71 ∧ s = 12 then y else if k = 71 ∧ s = 11 then x else gI σ k s := fun k s => by rw [gI_sI, gI_sI, gI_sI, gI_sI]
  have F : ∀ k s, ¬ ((k = 80 ∧ (s = 106 ∨ s = 107)) ∨ (k = 71 ∧ (s = 11 ∨ s = 12))) → gI (sI (sI (sI (sI σ 71 11 x) 71 12 y) 80 106 x) 80 107 y) k s = gI σ k s := fun k s z => by rw [g, if_neg (by omega), if_neg (by omega), if_neg (by omega), if_neg (by omega)]
  refine ⟨_, _, t, t', rel_Y R (fun k s z => F k s (by omega)) (fun k s _ => rfl) rfl (MM_b (MM_b (rel_b R) t) t') (tp_k (fun k s z => F k s (by omega)) (rel_tp R)) (ot_k (fun k s z => F k s (by omega)) (rel_ot R)) fun W q => ⟨wset (wset W 80 106 x) 80 107 y, ?_, fun k s z => by rw [wg_wset, if_neg (by omega), wg_wset, if_neg (by omega)]⟩⟩
  obtain ⟨w1, w2, hI, w5, wm, w8⟩ := q
  obtain ⟨k1, k2, k3, k4, k5, k6, k7, k8, k9⟩ := w2
  have pk := hI.2.2.2.1
  have v : ∀ k s, ¬ (k = 80 ∧ (s = 106 ∨ s = 107)) → wg (wset (wset W 80 106 x) 80 107 y) k s = wg W k s := fun k s z => by rw [wg_wset, if_neg (by omega), wg_wset, if_neg (by omega)]
  refine ⟨⟨fun k s z => ?_, w1.2.1, w1.2.2⟩, ⟨wldM_r k1 (fun k s z => F k s (by omega)) (fun s z => F _ s (by omega)) (fun k s z => v k s (by omega)), fun i hi => (v _ _ (by omega)).trans (k2 i hi), wcV_q k3 (fun s z => F _ s (by omega)) (fun s => v _ _ (by omega)), wcQ_q k4 pk.1.2 (fun s z => F _ s (by omega)) (fun s => v _ _ (by omega)) (v _ _ (by omega)), ⟨?_, ?_, ?_⟩, wcG_q k6 (fun s => F _ _ (by omega)) (fun s => v _ _ (by omega)), wcX_q k7 (fun s => F _ _ (by omega)) (fun s => v _ _ (by omega)) (v _ _ (by omega)), ⟨?_, ?_, ?_⟩, wcL_q k9 rfl rfl rfl⟩, inv_pq hI (fun k s z1 _ _ => v k s (by omega)) (fun s => ?_) ?_, w5_q w5 (fun k s z => v k s (by omega)), mp_q wm (fun k s z => v k s (by omega)), k8_q w8 (fun k s z => v k s (by omega))⟩
  · rw [wg_wset, wg_wset, g]
    by_cases c1 : k = 80 ∧ s = 107
    · rw [if_pos c1, if_pos c1]
    · rw [if_neg c1, if_neg c1]
      by_cases c2 : k = 80 ∧ s = 106
      · rw [if_pos c2, if_pos c2]
      · rw [if_neg c2, if_neg c2, if_neg (by omega), if_neg (by omega)]
        exact w1.1 k s z
  · rw [v _ _ (by omega), F _ _ (by omega)]
    exact k5.1
  · rw [v _ _ (by omega), F _ _ (by omega)]
    exact k5.2.1
  · rw [v _ _ (by omega), F _ _ (by omega)]
    exact k5.2.2
  · rw [wg_wset, if_neg (by omega), wg_wset, if_pos ⟨rfl, rfl⟩, g, if_neg (by omega), if_neg (by omega), if_neg (by omega), if_pos ⟨rfl, rfl⟩]
  · rw [wg_wset, if_pos ⟨rfl, rfl⟩, g, if_neg (by omega), if_neg (by omega), if_pos ⟨rfl, rfl⟩]
  · rw [wg_wset, if_neg (by omega), wg_wset, if_pos ⟨rfl, rfl⟩]
    exact hx
  · rw [v _ _ (by omega)]
    exact hI.2.2.1 144 s (by omega)
  · rw [v _ _ (by omega), v _ _ (by omega), v _ _ (by omega)]
    exact pk
theorem pr_26 (R : REL σ) : pV 319 542 [mL w] σ := by
  have t := T319 (σ := σ) (w := w)
  have t' := T542 (σ := sL σ 71 13 w) (w := w)
  have g : ∀ k s, gL (sL (sL σ 71 13 w) 80 108 w) k s = if k = 80 ∧ s = 108 then w else if k = 71 ∧ s = 13 then w else gL σ k s := fun k s => by rw [gL_sL, gL_sL]
  refine ⟨_, _, t, t', rel_Y R (fun k s z => rfl) (fun k s z => by rw [g, if_neg (by omega), if_neg (by omega)]) rfl (MM_b (MM_b (rel_b R) t) t') (tp_k (σ := σ) (fun k s z => rfl) (rel_tp R)) (ot_k (σ := σ) (fun k s z => rfl) (rel_ot R)) fun W q => ⟨(W.1, w, W.2.2), ?_, fun k s z => rfl⟩⟩
  obtain ⟨w1, w2, hI, w5, wm, w8⟩ := q
  obtain ⟨k1, k2, k3, k4, k5, k6, k7, k8, k9⟩ := w2
  have pk := hI.2.2.2.1
  refine ⟨⟨w1.1, ?_, ?_⟩, ⟨wldM_r k1 (fun k s z => rfl) (fun s z => rfl) (fun k s z => rfl), k2, wcV_q k3 (fun s z => rfl) (fun s => rfl), wcQ_q k4 pk.1.2 (fun s z => rfl) (fun s => rfl) rfl, k5, wcG_q k6 (fun s => rfl) (fun s => rfl), wcX_q k7 (fun s => rfl) (fun s => rfl) rfl, k8, ⟨?_, ?_⟩⟩, inv_pq hI (fun k s _ _ _ => rfl) (fun s => hI.2.2.1 144 s (by omega)) pk, w5_q w5 (fun k s z => rfl), mp_q wm (fun k s z => rfl), k8_q w8 (fun k s z => rfl)⟩
  · rw [g, if_pos ⟨rfl, rfl⟩]
  · rw [g, if_neg (by omega), if_neg (by omega)]
    exact w1.2.2
  · rw [g, if_neg (by omega), if_pos ⟨rfl, rfl⟩]
  · rw [g, if_neg (by omega), if_neg (by omega)]
    exact k9.2
theorem pr_33 (R : REL σ) : pI 326 548 [] σ := by
  have t := T326 (σ := σ)
  have t' := T548 (σ := sI σ 71 18 0)
  have ev : gI (sI σ 71 18 0) 80 113 = gI σ 71 18 := by
    obtain ⟨W, ⟨w1, w2, _⟩, _⟩ := rel_w R
    rw [gI_sI, if_neg (by omega), ← w1.1 80 113 (by omega)]
    exact w2.2.2.2.2.1.2.2
  rw [ev] at t'
  have g : ∀ k s, gI (sI (sI σ 71 18 0) 80 113 0) k s = if k = 80 ∧ s = 113 then 0 else if k = 71 ∧ s = 18 then 0 else gI σ k s := fun k s => by rw [gI_sI, gI_sI]
  have F : ∀ k s, ¬ ((k = 80 ∧ s = 113) ∨ (k = 71 ∧ s = 18)) → gI (sI (sI σ 71 18 0) 80 113 0) k s = gI σ k s := fun k s z => by rw [g, if_neg (by omega), if_neg (by omega)]
  refine ⟨_, _, _, t, t', rel_Y R (fun k s z => F k s (by omega)) (fun k s _ => rfl) rfl (MM_b (MM_b (rel_b R) t) t') (tp_k (fun k s z => F k s (by omega)) (rel_tp R)) (ot_k (fun k s z => F k s (by omega)) (rel_ot R)) fun W q => ⟨wset W 80 113 0, ?_, fun k s z => by rw [wg_wset, if_neg (by omega)]⟩⟩
  obtain ⟨w1, w2, hI, w5, wm, w8⟩ := q
  obtain ⟨k1, k2, k3, k4, k5, k6, k7, k8, k9⟩ := w2
  have pk := hI.2.2.2.1
  have v : ∀ k s, ¬ (k = 80 ∧ s = 113) → wg (wset W 80 113 0) k s = wg W k s := fun k s z => by rw [wg_wset, if_neg z]
  have v0 : wg (wset W 80 113 0) 80 113 = 0 := by rw [wg_wset, if_pos ⟨rfl, rfl⟩]
  refine ⟨⟨fun k s z => ?_, w1.2.1, w1.2.2⟩, ⟨wldM_r k1 (fun k s z => F k s (by omega)) (fun s z => F _ s (by omega)) (fun k s z => v k s (by omega)), fun i hi => (v _ _ (by omega)).trans (k2 i hi), wcV_q k3 (fun s z => F _ s (by omega)) (fun s => v _ _ (by omega)), wcQ_q k4 pk.1.2 (fun s z => F _ s (by omega)) (fun s => v _ _ (by omega)) (v _ _ (by omega)), ⟨?_, ?_, ?_⟩, wcG_q k6 (fun s => F _ _ (by omega)) (fun s => v _ _ (by omega)), fun s hs => ?_, ?_, wcL_q k9 rfl rfl rfl⟩, inv_pq hI (fun k s z1 _ _ => v k s (by omega)) (fun s => ?_) ?_, w5_q w5 (fun k s z => v k s (by omega)), mp_q wm (fun k s z => v k s (by omega)), k8_q w8 (fun k s z => v k s (by omega))⟩
  · by_cases c1 : k = 80 ∧ s = 113
    · rw [c1.1, c1.2, v0, g, if_pos ⟨rfl, rfl⟩]
    · rw [v k s c1]
      exact (w1.1 k s z).trans (F k s (by omega)).symm
  · rw [v _ _ (by omega), F _ _ (by omega)]
    exact k5.1
  · rw [v _ _ (by omega), F _ _ (by omega)]
    exact k5.2.1
  · rw [v0, g, if_neg (by omega), if_pos ⟨rfl, rfl⟩]
  · rw [v0] at hs
    omega
  · rw [v _ _ (by omega), v _ _ (by omega), F _ _ (by omega), F _ _ (by omega)]
    exact k8
  · rw [v _ _ (by omega)]
    exact hI.2.2.1 144 s (by omega)
  · rw [v0, v _ _ (by omega), v _ _ (by omega)]
    exact ⟨pk.1, by omega, pk.2.2⟩
end PR2
