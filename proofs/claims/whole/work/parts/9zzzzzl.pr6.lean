/-! ===== side by side: judge ===== -/
section PR6
variable {σ τ ρ υ : MS} {W V : WR} {E : EV} {n m k s X M : Nat} {x y b : Int} {p p' : Nat → B64} {r : JD}
theorem T302n (h : (x < 0 ∨ 8 ≤ x) ∨ (∃ X : Nat, X < 8 ∧ x = (X : Int) ∧ gI σ 15 X = 0)) : MM 302 [mR (some 0), mI x] σ = some (some (mI (-1)), σ) := by
  have t : MM 297 [mR (some 0), mI x] σ = some (some (mI 0), σ) := by
    rcases h with h | ⟨X, hX, rfl, h0⟩
    · exact T297n h
    · have t := T297 (σ := σ) hX
      rw [h0] at t
      exact t
  rw [M302, e302_0, t]
  simp only [Option.bind_some, Option.toList_some, Option.toList_none, List.cons_append, List.nil_append]
  rw [e302_5, if_neg (fun z => z rfl)]
theorem T470n (h : (x < 0 ∨ 8 ≤ x) ∨ (∃ X : Nat, X < 8 ∧ x = (X : Int) ∧ gI σ 84 X = 0)) : MM 470 [mR (some 80), mI x] σ = some (some (mI (-1)), σ) := by
  rcases h with h | ⟨X, hX, rfl, h0⟩
  · rw [M470, e470_0, T331n h]
    simp only [Option.bind_some, Option.toList_some, Option.toList_none, List.cons_append, List.nil_append]
    rw [e470_4, if_pos rfl]
  · rw [M470, e470_0, T331 hX]
    simp only [Option.bind_some, Option.toList_some, Option.toList_none, List.cons_append, List.nil_append]
    rw [e470_4, if_neg (by decide), if_pos (by rw [g_84]; omega), Int.toNat_natCast, if_neg (not_not_intro h0)]
/-- whether a slot's program was taken is told anew -/
theorem wd_85 (q : rWd σ W) (F : ∀ k s, wdI k s → ¬ ((k = 16 ∨ k = 85) ∧ s = X) → gI υ k s = gI σ k s) (G : ∀ k s, (k = 71 ∧ (s = 13 ∨ s = 16)) ∨ (k = 80 ∧ (s = 108 ∨ s = 111)) → gL υ k s = gL σ k s) (g16 : gI υ 16 X = b) (g85 : gI υ 85 X = b) : rWd υ (wset W 85 X b) := by
  obtain ⟨w1, w2, hI, w5, wm, w8⟩ := q
  obtain ⟨k1, k2, k3, k4, k5, k6, k7, k8, k9⟩ := w2
  have pk := hI.2.2.2.1
  have v : ∀ k s, ¬ (k = 85 ∧ s = X) → wg (wset W 85 X b) k s = wg W k s := fun k s z => by rw [wg_wset, if_neg z]
  have v0 : wg (wset W 85 X b) 85 X = b := by rw [wg_wset, if_pos ⟨rfl, rfl⟩]
  refine ⟨⟨fun k s z => ?_, w1.2.1.trans (G _ _ (by omega)).symm, w1.2.2.trans (G _ _ (by omega)).symm⟩, ⟨wldM_r k1 (fun k s z => F k s (by omega) (by omega)) (fun s z => F _ s (by omega) (by omega)) (fun k s z => v k s (by omega)), fun i hi => (v _ _ (by omega)).trans (k2 i hi), wcV_q k3 (fun s z => F _ s (by omega) (by omega)) (fun s => v _ _ (by omega)), wcQ_q k4 pk.1.2 (fun s z => F _ s (by omega) (by omega)) (fun s => v _ _ (by omega)) (v _ _ (by omega)), ⟨?_, ?_, ?_⟩, fun s hs => ?_, wcX_q k7 (fun s => F _ _ (by omega) (by omega)) (fun s => v _ _ (by omega)) (v _ _ (by omega)), ?_, wcL_q k9 (G _ _ (by omega)) (G _ _ (by omega)) rfl⟩, inv_pq hI (fun k s _ _ z1 => v k s (by omega)) (fun s => ?_) ?_, w5_q w5 (fun k s z => v k s (by omega)), mp_q wm (fun k s z => v k s (by omega)), k8_q w8 (fun k s z => v k s (by omega))⟩
  · by_cases c1 : k = 85 ∧ s = X
    · rw [c1.1, c1.2, v0, g85]
    · rw [v k s c1]
      exact (w1.1 k s z).trans (F k s (Or.inl z) (by omega)).symm
  · rw [v _ _ (by omega), F _ _ (by omega) (by omega)]
    exact k5.1
  · rw [v _ _ (by omega), F _ _ (by omega) (by omega)]
    exact k5.2.1
  · rw [v _ _ (by omega), F _ _ (by omega) (by omega)]
    exact k5.2.2
  · by_cases c1 : s = X
    · rw [c1, v0, g16]
    · rw [v 85 s (by omega), F 16 s (by omega) (by omega)]
      exact k6 s hs
  · rw [v _ _ (by omega), v _ _ (by omega), F _ _ (by omega) (by omega), F _ _ (by omega) (by omega)]
    exact k8
  · rw [v _ _ (by omega)]
    exact hI.2.2.1 144 s (by omega)
  · rw [v _ _ (by omega), v _ _ (by omega), v _ _ (by omega)]
    exact pk
theorem tkn_r (n0 : 0 < n) (h : judR E p n r) (z : r.1 = 0) : tkn E p n := by
  rcases h with ⟨i, S, hf, rfl⟩ | ⟨S, hf, h⟩
  · cases z
  · rcases h with ⟨i, hc, rfl⟩ | ⟨hc, f, e, w, hw, rfl⟩
    · cases z
    · have z : e = 0 := z
      subst z
      exact ⟨n0, S, f, w, hf, hc, hw⟩
theorem x51 {g : Nat → Int} {a b c d e f : Int} {h : Nat → Int} (g0 : g 0 = a) (g1 : g 1 = b) (g2 : g 2 = c) (g3 : g 3 = d) (g4 : g 4 = e) (g5 : g 5 = f) (h0 : h 0 = a) (h1 : h 1 = b) (h2 : h 2 = c) (h3 : h 3 = d) (h4 : h 4 = e) (h5 : h 5 = f) (x : Nat) (hx : x ≤ 5) : g x = h x := by
  have : x = 0 ∨ x = 1 ∨ x = 2 ∨ x = 3 ∨ x = 4 ∨ x = 5 := by omega
  rcases this with rfl | rfl | rfl | rfl | rfl | rfl
  · exact g0.trans h0.symm
  · exact g1.trans h1.symm
  · exact g2.trans h2.symm
  · exact g3.trans h3.symm
  · exact g4.trans h4.symm
  · exact g5.trans h5.symm
theorem pr_9 (R : REL σ) : pI 302 470 [mI x] σ := by
  by_cases h : (x < 0 ∨ 8 ≤ x) ∨ (∃ X : Nat, X < 8 ∧ x = (X : Int) ∧ gI σ 84 X = 0)
  · have h1 : (x < 0 ∨ 8 ≤ x) ∨ (∃ X : Nat, X < 8 ∧ x = (X : Int) ∧ gI σ 15 X = 0) := by
      rcases h with h | ⟨X, a, b, c⟩
      · exact Or.inl h
      · exact Or.inr ⟨X, a, b, by rw [((rel_sl R).2 X a).1]; exact c⟩
    exact ⟨_, σ, σ, T302n h1, T470n h, R⟩
  · obtain ⟨X, hX, rfl⟩ := nat8 (x := x) (fun z => h (Or.inl z))
    have h84 : ¬ gI σ 84 X = 0 := fun z => h (Or.inr ⟨X, hX, rfl, z⟩)
    obtain ⟨⟨q1, q2, ⟨s1, s2⟩, q4, q5⟩, ⟨W, q6, q7⟩, q8, ⟨a1, a2, ⟨B0, T0, d1, d2, d3⟩, a4, a5, ⟨hc, a6⟩, ⟨sc, a7⟩, a8⟩⟩ := R
    have q6' := q6
    obtain ⟨w1, w2, hI, w5, wm, w8⟩ := q6'
    have C := ev_C w2 wm
    have D := ev_R w1 wm
    obtain ⟨c1, c2, c3⟩ := s2 X hX
    obtain ⟨n, hn⟩ : ∃ n : Nat, gI σ 84 X = (n : Int) := ⟨(gI σ 84 X).toNat, by omega⟩
    have n0 : 0 < n := by omega
    have n200 : n ≤ 200 := by omega
    obtain ⟨r, hr⟩ := jud_tot (evW W) (fun j => gL σ (7 + X) j) n
    obtain ⟨τ, t, ⟨f1, f2, f3⟩, ⟨po, pn, sc', h15'⟩, t51, tk, t16, hc', h14'⟩ := T302 hX (c1.trans hn) n0 n200 (s1 X hX) a4 a5 a6 a7 (ev_ok wm) C hr
    have ol : ∀ q, q < 62 ∨ (70 ≤ q ∧ q < 153) → oth σ q := fun q z => oth_l a4 a5 z
    have Fc : ∀ k s, k < 153 → ¬ (39 ≤ k ∧ k ≤ 70) → ¬ (k = 16 ∧ s = X) → gI τ k s = gI σ k s := fun k s y1 y2 y3 => (f1 k s (ol k (by omega)) (by omega) y3).1
    have Lc : ∀ k s, k < 153 → ¬ (39 ≤ k ∧ k ≤ 70) → ¬ k = 16 → gL τ k s = gL σ k s := fun k s y1 y2 y3 => (f1 k s (ol k (by omega)) (by omega) (by omega)).2.1
    have Rc : ∀ k s, k < 153 → ¬ (39 ≤ k ∧ k ≤ 70) → ¬ k = 16 → gR τ k s = gR σ k s := fun k s y1 y2 y3 => (f1 k s (ol k (by omega)) (by omega) (by omega)).2.2
    have t84 : gI τ 84 X = (n : Int) := (Fc 84 X (by omega) (by omega) (by omega)).trans hn
    have we : ∀ j, j < n → gL σ (7 + X) j = gL τ 83 (200 * X + j) := fun j hj => by
      rw [Lc 83 _ (by omega) (by omega) (by omega)]
      exact c3 j (by omega)
    have hr' : judR (evW W) (fun j => gL τ 83 (200 * X + j)) n r := judR_e (p' := fun j => gL τ 83 (200 * X + j)) (ev_ok wm) n0 we hr
    obtain ⟨υ, t', ⟨j1, j2, j3⟩, u138, uk, u85, u95, _⟩ := T470 (σ := τ) (r := r) hX (by omega) (by omega) (ev_ok wm) (EO_g D fun k m z => Fc k m (by omega) (by omega) (by omega)) (by rw [t84, Int.toNat_natCast]; exact hr')
    have bυ := MM_b (MM_b a1 t) t'
    have F : ∀ k s, k < 153 → ¬ (39 ≤ k ∧ k ≤ 70) → ¬ (k = 16 ∧ s = X) → ¬ jwT X k s → gI υ k s = gI σ k s := fun k s y1 y2 y3 y4 => (j1 k s y4).trans (Fc k s y1 y2 y3)
    have G : ∀ k s, k < 153 → ¬ (39 ≤ k ∧ k ≤ 70) → ¬ k = 16 → ¬ ((112 ≤ k ∧ k ≤ 117) ∨ k = 140) → gL υ k s = gL σ k s := fun k s y1 y2 y3 y4 => (j2 k s y4).trans (Lc k s y1 y2 y3)
    obtain ⟨r1, r2, r3⟩ := rt_R j3
    have Rg : ∀ k s, k < 153 → ¬ (39 ≤ k ∧ k ≤ 70) → ¬ k = 16 → gR υ k s = gR σ k s := fun k s y1 y2 y3 => (r1 k s).trans (Rc k s y1 y2 y3)
    have ju : ∀ k s, 153 ≤ k → gI υ k s = gI τ k s := fun k s z => j1 k s (by omega)
    have cc : ccn υ = ccn σ := by
      unfold ccn
      rw [show (fun s => (gR υ 73 s).isSome) = fun s => (gR σ 73 s).isSome from funext fun s => by rw [Rg 73 s (by omega) (by omega) (by omega)]]
    obtain ⟨p1, p2, p3⟩ := po_id (τ := υ) po (fun s _ => slR_2 j3) (by rw [j3])
    have nm : nC σ ≤ nC υ := by
      rw [r3]
      exact f3.1
    have K3 : ∀ s K, s < 8 → gR σ 73 s = some K → 153 ≤ K ∧ (∀ z, gI υ K z = gI σ K z) ∧ kd υ K = kd σ K ∧ kd σ K = (3, 4800) ∧ K < nC σ := fun s K hs hK => by
      obtain ⟨e1, e2, e3⟩ := d1 s K hs hK
      have o := a8 s K hs hK
      exact ⟨e2, fun z => (ju K z e2).trans (f1 K z o (by omega) (by omega)).1, (r2 K).trans (f2 K o), e1, e3⟩
    refine ⟨_, τ, υ, t, t', ⟨tp_k (fun k s z => F k s (by omega) (by omega) (by omega) (by omega)) q1, ot_k (fun k s z => F k s (by omega) (by omega) (by omega) (by omega)) q2, sl_k (fun s => Rg 6 s (by omega) (by omega) (by omega)) (fun k s z => F k s (by omega) (by omega) (by omega) (by omega)) (fun k s z => G k s (by omega) (by omega) (by omega) (by omega)) ⟨s1, s2⟩, fun y hy => ?_, ⟨r.2.2.2, jud_kn (ev_ok wm) n0 n200 hr, knc_k (fun s => j1 52 s (by omega)) (fun s => j2 53 s (by omega)) tk, uk⟩⟩, ⟨wset W 85 X (if r.1 = 0 then 1 else 0), wd_85 q6 (fun k s z y => F k s (by omega) (by omega) (by omega) (by omega)) (fun k s z => G k s (by omega) (by omega) (by omega) (by omega)) ((j1 16 X (by omega)).trans t16) u85, ?_⟩, rs_k (F _ _ (by omega) (by omega) (by omega) (by omega)) (fun k s z => G k s (by omega) (by omega) (by omega) (by omega)) q8, bυ, fun s hs h1 => ?_, ⟨(nC υ : Int) - ccn υ, (tS υ : Int) - 4800 * ccn υ, fun s K hs hK => ?_, fun s t K hs ht h1 h2 => ?_, ?_⟩, p1, ?_, ⟨hc', (r1 _ _).trans h14'⟩, ⟨sc', (r1 _ _).trans h15'⟩, fun s K hs hK => ?_⟩
    · rw [u95, if_neg (by decide), j1 51 y (by omega)]
      obtain ⟨x0, x1, x2, x3, x4, x5⟩ := t51
      obtain ⟨y0, y1, y2, y3, y4, y5⟩ := u138
      exact x51 (g := fun y => gI τ 51 y) (h := fun y => gI υ 138 y) x0 x1 x2 x3 x4 x5 y0 y1 y2 y3 y4 y5 y hy
    · rw [ev_e (V := wset W 85 X (if r.1 = 0 then 1 else 0)) (W := W) (fun k s z => by rw [wg_wset, if_neg (by omega)])]
      refine ⟨q7.1, fun y hy z => ?_⟩
      have ew : (fun j => gL υ 83 (200 * y + j)) = fun j => gL σ 83 (200 * y + j) := funext fun j => G 83 _ (by omega) (by omega) (by omega) (by omega)
      rw [ew, F 84 y (by omega) (by omega) (by omega) (by omega)]
      by_cases e : y = X
      · rw [e, u85] at z
        have r0 : r.1 = 0 := Decidable.byContradiction fun y => z (if_neg y)
        have tk := tkn_r n0 hr' r0
        have ew' : (fun j => gL τ 83 (200 * X + j)) = fun j => gL σ 83 (200 * X + j) := funext fun j => Lc 83 _ (by omega) (by omega) (by omega)
        rw [ew'] at tk
        rw [e, hn, Int.toNat_natCast]
        exact tk
      · rw [F 85 y (by omega) (by omega) (by omega) (by omega)] at z
        exact q7.2 y hy z
    · rw [F 17 s (by omega) (by omega) (by omega) (by omega)] at h1
      rw [show (fun j => gL υ (7 + s) j) = fun j => gL σ (7 + s) j from funext fun j => G _ _ (by omega) (by omega) (by omega) (by omega), F 15 s (by omega) (by omega) (by omega) (by omega)]
      obtain ⟨K, st, h1, h2, h3, h4, h5, h6⟩ := a2 s hs h1
      obtain ⟨e1, e2, e3, _⟩ := K3 s K hs h1
      exact ⟨K, st, (Rg _ _ (by omega) (by omega) (by omega)).trans h1, e3.trans h2, h3, (F 74 _ (by omega) (by omega) (by omega) (by omega)).trans h4, h5, fun x hx => ⟨(h6 x hx).1, codQ_g e2 (h6 x hx).2⟩⟩
    · rw [Rg 73 _ (by omega) (by omega) (by omega)] at hK
      obtain ⟨e1, e2, e3, e4, e5⟩ := K3 s K hs hK
      exact ⟨e3.trans e4, e1, by omega⟩
    · rw [Rg 73 _ (by omega) (by omega) (by omega)] at h1 h2
      exact d2 s t K hs ht h1 h2
    · have := d3.1
      exact ⟨by omega, by omega, by omega⟩
    · rw [cc]
      exact p2 _ pn
    · rw [Rg 73 _ (by omega) (by omega) (by omega)] at hK
      have o := a8 s K hs hK
      have o2 := pgr_o f3 pn o
      exact ⟨by rw [r3]; exact o2.1, fun s c hs hc => o2.2 s c hs (by rw [← slR_2 j3]; exact hc)⟩
end PR6
