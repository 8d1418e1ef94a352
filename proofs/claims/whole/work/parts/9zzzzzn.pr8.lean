/-! ===== side by side: run, whole ===== -/
section PR8
variable {σ τ ρ υ : MS} {W V : WR} {E : EV} {n m k s X M N : Nat} {x y b v : Int} {r : TC WR} {B0 T0 : Int}
theorem T320n (h : ((x < 0 ∨ 8 ≤ x) ∨ ∃ X : Nat, X < 8 ∧ x = (X : Int) ∧ gI σ 16 X = 0) ∨ (y < 0 ∨ 1 < y)) : MM 320 [mR (some 0), mI x, mI y] σ = some (some (mI (-1)), σ) := by
  have t : ∃ v, MM 303 [mR (some 0), mI x] σ = some (some (mI v), σ) ∧ (¬ v = 0 → y < 0 ∨ 1 < y) := by
    by_cases q : x < 0 ∨ 8 ≤ x
    · exact ⟨0, T303n q, fun z => absurd rfl z⟩
    · obtain ⟨X, hX, rfl⟩ := nat8 q
      refine ⟨_, T303 hX, fun z => ?_⟩
      rcases h with (h | ⟨X', a, b, c⟩) | h
      · exact absurd h q
      · have e : X' = X := by omega
        rw [e] at c
        rw [if_pos c] at z
        exact absurd rfl z
      · exact h
  obtain ⟨v, t, hv⟩ := t
  rw [M320, e320_0, t]
  simp only [Option.bind_some, Option.toList_some, Option.toList_none, List.cons_append, List.nil_append]
  rw [e320_5]
  by_cases z : v = 0
  · rw [if_pos z]
  · rw [if_neg z]
    by_cases c : y < 0
    · rw [if_pos c]
    · rw [if_neg c, if_neg (by have := hv z; omega)]
theorem T320 (hX : X < 8) (h16 : ¬ gI σ 16 X = 0) (hy : 0 ≤ y ∧ y ≤ 1) (t : MM 179 [mR (some 71), mI (X : Int), mI y] σ = some (some (mI v), τ)) : MM 320 [mR (some 0), mI (X : Int), mI y] σ = some (some (mI v), τ) := by
  have t3 := T303 (σ := σ) hX
  rw [if_neg h16] at t3
  rw [M320, e320_0, t3]
  simp only [Option.bind_some, Option.toList_some, Option.toList_none, List.cons_append, List.nil_append]
  rw [e320_5, if_neg (by decide), if_neg (by omega), if_pos hy.2, t]
  simp only [Option.bind_some, Option.toList_some, Option.toList_none, List.cons_append, List.nil_append]
  rw [e320_28]
theorem T551n (h : ((x < 0 ∨ 8 ≤ x) ∨ ∃ X : Nat, X < 8 ∧ x = (X : Int) ∧ gI σ 85 X = 0) ∨ (y < 0 ∨ 1 < y)) : MM 551 [mR (some 80), mI x, mI y] σ = some (some (mI (-1)), σ) := by
  by_cases q : x < 0 ∨ 8 ≤ x
  · rw [M551, e551_0, T331n q]
    simp only [Option.bind_some, Option.toList_some, Option.toList_none, List.cons_append, List.nil_append]
    rw [e551_4, if_pos rfl]
  · obtain ⟨X, hX, rfl⟩ := nat8 q
    rw [M551, e551_0, T331 hX]
    simp only [Option.bind_some, Option.toList_some, Option.toList_none, List.cons_append, List.nil_append]
    rw [e551_4, if_neg (by decide), if_pos (by rw [g_85]; omega), Int.toNat_natCast]
    by_cases c : gI σ 85 X = 0
    · rw [if_pos c]
    · rw [if_neg c]
      by_cases d : y < 0
      · rw [if_pos d]
      · rw [if_neg d, if_neg (by
          rcases h with (h | ⟨X', a, b, e⟩) | h
          · exact absurd h q
          · have e' : X' = X := by omega
            rw [e'] at e
            exact absurd e c
          · omega)]
theorem rmv_T (m : rmvC σ τ) : rmvT σ τ := by
  obtain ⟨r1, r2, r3⟩ := rt_R m.2.2
  exact ⟨fun k z _ h1 h2 _ => m.1 k z h1 h2, fun k z _ h1 h2 => m.2.1 k z h1 h2, fun k z _ _ _ => r1 k z, fun k h1 h2 h3 => ⟨fun z => ⟨m.1 k z (by omega) (by omega), m.2.1 k z (by omega) (by omega), r1 k z⟩, r2 k⟩, by rw [r3]; exact Nat.le_refl _, fun s k _ h => Or.inl (by rw [← r1]; exact h)⟩
theorem kd_lo {q : Nat} (h : q < 153) : kd τ q = kd σ q := by
  have h' : q < fxN := h
  unfold kd
  rw [if_pos h', if_pos h']
/-- places and code are kept by a run -/
theorem in_r (r : rIn σ) (D : cdD B0 T0 σ) (m : rmvT σ τ) (hb : bOk τ) (U : tuC τ) (D' : cdD B0 T0 τ) : rIn τ := by
  obtain ⟨a1, a2, _, a4, a5, a6, a7, a8⟩ := r
  have rs : ∀ s, slR τ s = slR σ s := fun s => by
    unfold slR
    rw [m.2.2.1 39 _ (by decide) (by decide) (by omega), m.2.2.1 39 _ (by decide) (by decide) (by omega), m.2.2.1 58 _ (by decide) (by decide) (by omega), m.2.2.1 59 _ (by decide) (by decide) (by omega)]
  have nm := m.2.2.2.2.1
  have kq : ∀ s c q, s < 312 → slR σ s = some c → c ≤ q → q < c + 4 → kd τ q = kd σ q := fun s c q hs hc h1 h2 => by
    by_cases l : q < 153
    · exact kd_lo l
    · have lt := a5.1 s c hs hc
      exact (m.2.2.2.1 q (by omega) (by omega) (fun s' hs' e => (a8 s' q hs' e).2 s c hs hc ⟨h1, h2⟩)).2
  have po : POOL τ := by
    refine ⟨fun s c hs hc => ?_, fun s s' c c' hs hs' ne h h' => ?_⟩
    · rw [rs] at hc
      obtain ⟨⟨i1, i2, i3, i4⟩, i5⟩ := a4.1 s c hs hc
      exact ⟨⟨(kq s c _ hs hc (by omega) (by omega)).trans i1, (kq s c _ hs hc (by omega) (by omega)).trans i2, (kq s c _ hs hc (by omega) (by omega)).trans i3, (kq s c _ hs hc (by omega) (by omega)).trans i4⟩, i5⟩
    · rw [rs] at h h'
      exact a4.2 s s' c c' hs hs' ne h h'
  have cb : ccn τ ≤ 8 := cnt_le _ 8
  obtain ⟨b1, b2, ⟨b3, b4⟩, b5⟩ := a5
  obtain ⟨d1, d2, d3⟩ := D.2.2
  obtain ⟨e1, e2, e3⟩ := D'.2.2
  have ec : cnt 312 (fun s => (slR τ s).isSome) = cnt 312 (fun s => (slR σ s).isSome) := cnt_ext 312 fun s _ => by rw [rs]
  refine ⟨hb, U, ⟨B0, T0, D'⟩, po, ⟨fun s c hs hc => ?_, e1, ?_, by omega⟩, by rw [m.2.2.1 39 _ (by decide) (by decide) (by omega)]; exact a6, by rw [m.2.2.1 39 _ (by decide) (by decide) (by omega)]; exact a7, fun s K hs hK => ⟨Or.inl (D'.1 s K hs hK).2.2, fun s' c hs' hc z => ?_⟩⟩
  · rw [rs] at hc
    have := b1 s c hs hc
    omega
  · rw [ec]
    exact ⟨by omega, by omega⟩
  · rw [rs] at hc
    rcases m.2.2.2.2.2 s K hs hK with h | h
    · exact (a8 s K hs h).2 s' c hs' hc z
    · have := b1 s' c hs' hc
      omega
theorem inv_ed (hI : invW W) : invW (edW W) := by
  have h : ∀ k s, ¬ (k = 104 ∨ k = 105) → wg (edW W) k s = wg W k s := fun k t z => by
    show (if k = 104 ∧ t < 256 then (if ¬ W.1 105 t = 0 then 0 else W.1 104 t % 2) else if k = 105 ∧ t < 256 then 0 else W.1 k t) = _
    rw [if_neg (by omega), if_neg (by omega)]
  obtain ⟨h1, h2, h3, h4, h5, h6, h7⟩ := hI
  refine ⟨fun m hm => ?_, fun m e hm he => ?_, fun k s hk => ?_, ?_, fun i hi hh => ?_, fun m hm => ?_, fun m x hm hx => ?_⟩
  · rw [h 97 _ (by omega), h 98 _ (by omega), h 99 _ (by omega), h 101 _ (by omega), h 96 _ (by omega)]
    exact h1 m hm
  · rw [h 101 _ (by omega)] at he
    rw [h 103 _ (by omega)]
    exact h2 m e hm he
  · rw [h k _ (by omega)]
    exact h3 k s hk
  · rw [h 80 _ (by omega), h 80 _ (by omega), h 80 _ (by omega)]
    exact h4
  · rw [h 152 _ (by omega)] at hh
    rw [h 151 _ (by omega), h 150 _ (by omega)]
    exact h5 i hi hh
  · rw [h 99 _ (by omega), h 107 _ (by omega), hld_e (V := edW W) (W := W) (fun s => h _ _ (by omega)) (fun s => h _ _ (by omega))]
    exact h6 m hm
  · rw [h 106 _ (by omega)]
    exact h7 m x hm hx
theorem ed_o (h : ¬ (k = 104 ∨ k = 105)) : wg (edW W) k s = wg W k s := by
  show (if k = 104 ∧ s < 256 then (if ¬ W.1 105 s = 0 then 0 else W.1 104 s % 2) else if k = 105 ∧ s < 256 then 0 else W.1 k s) = _
  rw [if_neg (by omega), if_neg (by omega)]
theorem ed_5 : W5 (edW W) := fun t ht => by
  have e4 : wg (edW W) 104 t = if ¬ W.1 105 t = 0 then 0 else W.1 104 t % 2 := if_pos ⟨rfl, ht⟩
  have e5 : wg (edW W) 105 t = 0 := by
    show (if 105 = 104 ∧ t < 256 then (if ¬ W.1 105 t = 0 then 0 else W.1 104 t % 2) else if 105 = 105 ∧ t < 256 then 0 else W.1 105 t) = 0
    rw [if_neg (by omega), if_pos ⟨rfl, ht⟩]
  rw [e4, e5]
  refine ⟨?_, rfl⟩
  split
  · exact Or.inl rfl
  · omega
theorem tak_C (sl : rSl σ) (tk : rTk σ (evW W)) (wm : MP W) {s : Nat} (hs : s < 8) (h : ¬ gI σ 85 s = 0) : tkn (evW W) (fun j => gL σ (7 + s) j) (gI σ 84 s).toNat := by
  obtain ⟨a1, a2, a3⟩ := sl.2 s hs
  exact tkn_e (ev_ok wm) (fun j hj => (a3 j (by omega)).symm) (tk.2 s hs h)
/-- what the class does -/
theorem cls_run (C : CEO σ E) (hE : okE E) (hR : okRow E) (tf : taF σ) (sl : slC σ) (wo : wldO σ W) (hI : invW W) (hb : bOk σ) (U : tuC σ) (D : cdD B0 T0 σ) (hX : X < 8) (h16 : ¬ gI σ 16 X = 0) (hy : 0 ≤ y ∧ y ≤ 1) (nc : nC σ ≤ 5000) (e : rnT RB RH E RT (prC σ) sloW 36000 (X : Int) (st0 (bgW W (X : Int))) = some r) (h0 : ∀ i, i < 64 → RB.2.2.2.1 (cW r) i = false) : ∃ τ, MM 320 [mR (some 0), mI (X : Int), mI y] σ = some (some (mI (lI ((cW r).2.2 - gL σ 71 16))), τ) ∧ wldO τ (edW (cW r)) ∧ gL τ 71 14 = (rdR r 0).2 ∧ rmvT σ τ ∧ tuC τ ∧ cdD B0 T0 τ := by
  by_cases c : y = 0
  · have tc : taC σ := fun s s0 s8 z => by
      obtain ⟨⟨b1, b2⟩, S, _, okp, g0⟩ := tf s.toNat (by omega) z
      refine ⟨b2, GP (gI σ 15 s.toNat).toNat S, ?_, g0, fun i gi => ?_⟩
      · rw [show s = ((s.toNat : Nat) : Int) by omega, Int.toNat_natCast]
        exact okp
      · have := gi.1
        omega
    obtain ⟨τ, t, p1, p2, p3⟩ := T179 C hE hR tc sl wo hI hb hX h16 (by decide) e h0
    rw [← c] at t
    exact ⟨τ, T320 hX h16 hy t, p1, p2, rmv_T p3, tuC_r p3.2.2 (fun k z h => p3.1 k z (by omega) (by omega)) (fun k z h1 h2 => p3.2.1 k z (by omega) (by omega)) U, cdD_r p3.2.2 D⟩
  · have c1 : y = 1 := by omega
    obtain ⟨τ, t, p1, p2, p3, p4, p5⟩ := T179p C hE hR tf sl wo hI hb U D hX h16 (by decide) (by omega) e h0
    rw [← c1] at t
    exact ⟨τ, T320 hX h16 hy t, p1, p2, p3, p4, p5⟩
theorem pr_27 (R : REL σ) : pI 320 551 [mI x, mI y] σ := by
  obtain ⟨W, ⟨w1, w2, hI, w5, wm, w8⟩, q7⟩ := R.2.1
  have e85 : ∀ s : Nat, s < 8 → gI σ 16 s = gI σ 85 s := fun s hs => ((w2.2.2.2.2.2.1 s hs).symm).trans (w1.1 85 s (by omega))
  by_cases h : ((x < 0 ∨ 8 ≤ x) ∨ ∃ X : Nat, X < 8 ∧ x = (X : Int) ∧ gI σ 85 X = 0) ∨ (y < 0 ∨ 1 < y)
  · refine ⟨_, σ, σ, T320n ?_, T551n h, R⟩
    rcases h with (h | ⟨X, a, b, c⟩) | h
    · exact Or.inl (Or.inl h)
    · exact Or.inl (Or.inr ⟨X, a, b, (e85 X a).trans c⟩)
    · exact Or.inr h
  · obtain ⟨X, hX, rfl⟩ := nat8 (x := x) (fun z => h (Or.inl (Or.inl z)))
    have h85 : ¬ gI σ 85 X = 0 := fun z => h (Or.inl (Or.inr ⟨X, hX, rfl, z⟩))
    have hy : 0 ≤ y ∧ y ≤ 1 := by
      have : ¬ (y < 0 ∨ 1 < y) := fun z => h (Or.inr z)
      omega
    have C := ev_C w2 wm
    have sl := rel_sl R
    obtain ⟨q1, q2, q3, q4, q5⟩ := R.1
    have rin := R.2.2.2
    obtain ⟨a1, a2, ⟨B0, T0, D⟩, a4, a5, a6, a7, a8⟩ := rin
    have v85 : ∀ s, wg W 85 s = gI σ 85 s := fun s => w1.1 85 s (by omega)
    have tkc : ∀ s : Nat, s < 8 → ¬ gI σ 85 s = 0 → tkn (evW W) (fun j => gL σ (7 + s) j) (gI σ 84 s).toNat := fun s hs z => tak_C sl q7 wm hs z
    have tf : taF σ := fun s hs z => by
      rw [e85 s hs] at z
      obtain ⟨b1, b2, b3⟩ := sl.2 s hs
      obtain ⟨n0, S, f, w, t1, t2, t3⟩ := tkc s hs z
      obtain ⟨o1, o2⟩ := okp_n n0 t1 t2
      rw [b1]
      exact ⟨b2, S, t1, o1, o2⟩
    obtain ⟨r, eC, _, h0, cs, k8r⟩ := run_all (E := evW W) (pr := prC σ) (pr' := prC σ) (s0 := X) (ev_ok wm) hI w8 hX (by rw [v85]; exact h85) (fun s hs z => ⟨_, tkc s hs (by rw [← v85]; exact z), fun j _ => rfl⟩)
    have nc : nC σ ≤ 5000 := by
      have b1 : ccn σ ≤ 8 := cnt_le _ 8
      have b2 := cnt_le (fun s => (slR σ s).isSome) 312
      have b3 := a5.2.2.1.1
      omega
    obtain ⟨τ, t, p1, p2, mT, U', D'⟩ := cls_run (E := evW W) (r := r) (y := y) C (ev_ok wm) (ev_w wm) tf sl.1 w2 hI a1 a2 D hX (by rw [e85 X hX]; exact h85) hy nc eC h0
    have bτ := MM_b a1 t
    have Fc : ∀ k z, k < 153 → ¬ movC k z → ¬ (k = 71 ∧ z = 11) → ¬ (k = 72 ∨ k = 75 ∨ k = 74 ∨ k = 17) → gI τ k z = gI σ k z := mT.1
    have Lc : ∀ k z, k < 153 → ¬ (k = 76 ∨ k = 77) → ¬ (k = 71 ∧ (z = 13 ∨ z = 14 ∨ z = 16)) → gL τ k z = gL σ k z := mT.2.1
    have wlτ : wldR τ W := wdR_k (fun k s z => Fc k s (by omega) (by omega) (by omega) (by omega)) (fun s z => Lc _ _ (by omega) (by omega) (by omega)) w1
    have eR : rnT RB RH (evW W) RT (prR τ) sloW 36000 (X : Int) (st0 (bgW W (X : Int))) = some r := by
      obtain ⟨r', eC', eR', _⟩ := run_all (E := evW W) (pr := prC σ) (pr' := prR τ) (s0 := X) (ev_ok wm) hI w8 hX (by rw [v85]; exact h85) (fun s hs z => ⟨_, tkc s hs (by rw [← v85]; exact z), fun j hj => by
        show gL τ 83 (200 * s + j) = gL σ (7 + s) j
        rw [Lc 83 _ (by omega) (by omega) (by omega)]
        exact ((sl.2 s hs).2.2 j (by omega)).symm⟩)
      rw [eC] at eC'
      rw [Option.some.inj eC']
      exact eR'
    have taR' : taR τ := fun s s0 s8 z => by
      rw [Fc 85 _ (by omega) (by omega) (by omega) (by omega)] at z
      obtain ⟨n0, S, f, w, t1, t2, t3⟩ := q7.2 s.toNat (by omega) z
      obtain ⟨o1, o2⟩ := okp_n n0 t1 t2
      have ew : (fun i : Int => gL σ 83 (200 * s.toNat + i.toNat)) = prR τ s := funext fun i => (Lc 83 _ (by omega) (by omega) (by omega)).symm
      refine ⟨_, ew ▸ o1, o2, fun i gi => ?_⟩
      have := gi.1
      have := (sl.2 s.toNat (by omega)).2.1
      omega
    obtain ⟨j, υ, t', j1, j2, j3, j4, j5, j6, j7, j8, j9⟩ := T551 (x2 := y) cmX_ok hX (by rw [Fc 85 _ (by omega) (by omega) (by omega) (by omega)]; exact h85) hy (ev_EC wlτ) taR' wlτ hI (by decide) eR
    have bυ := MM_b bτ t'
    have ev : lI ((cW r).2.2 - gL σ 71 16) = (j : Int) := by
      have e : gL σ 71 16 = W.2.2 := w2.2.2.2.2.2.2.2.2.2.symm
      rw [j2, e, BitVec.add_comm, BitVec.add_sub_cancel]
      exact lI_s (x := (j : Int)) (by omega)
    rw [ev] at t
    have F : ∀ k z, k < 153 → ¬ movC k z → ¬ (k = 71 ∧ z = 11) → ¬ (k = 72 ∨ k = 75 ∨ k = 74 ∨ k = 17) → ¬ movK k z → ¬ (k = 80 ∧ z = 54) → gI υ k z = gI σ k z := fun k z y1 y2 y3 y4 y5 y6 => (j7 k z y5 y6).trans (Fc k z y1 y2 y3 y4)
    have G : ∀ k z, k < 153 → ¬ (k = 76 ∨ k = 77) → ¬ (k = 71 ∧ (z = 13 ∨ z = 14 ∨ z = 16)) → ¬ k = 146 → ¬ (k = 80 ∧ (z = 108 ∨ z = 109 ∨ z = 111)) → gL υ k z = gL σ k z := fun k z y1 y2 y3 y4 y5 => (j8 k z y4 y5).trans (Lc k z y1 y2 y3)
    have r6 : ∀ s, gR υ 6 s = gR σ 6 s := fun s => ((rt_R j9).1 6 s).trans (mT.2.2.1 6 s (by decide) (by decide) (by omega))
    have iI := inv_ed j4
    have ve : ∀ k s, csW k → wg (edW (cW r)) k s = wg W k s := fun k s z => (ed_o (by omega)).trans (cs k s z)
    refine ⟨_, τ, υ, t, t', ⟨tp_k (fun k s z => F k s (by omega) (by omega) (by omega) (by omega) (by omega) (by omega)) q1, ot_k (fun k s z => F k s (by omega) (by omega) (by omega) (by omega) (by omega) (by omega)) q2, sl_k r6 (fun k s z => F k s (by omega) (by omega) (by omega) (by omega) (by omega) (by omega)) (fun k s z => G k s (by omega) (by omega) (by omega) (by omega) (by omega)) q3, td_k (fun k s z => F k s (by omega) (by omega) (by omega) (by omega) (by omega) (by omega)) q4, kn_k (fun k s z => F k s (by omega) (by omega) (by omega) (by omega) (by omega) (by omega)) (fun k s z => G k s (by omega) (by omega) (by omega) (by omega) (by omega)) q5⟩, ⟨edW (cW r), ⟨j3, wldO_g p1 iI.2.2.2.1.1.2 (fun k s z => j7 k s (by omega) (by omega)) (fun s z => j8 _ _ (by omega) (by omega)), iI, ed_5, mp_q wm (fun k s z => ve k s (by omega)), k8_ed k8r⟩, ?_⟩, ⟨?_, j6⟩, in_k j9 bυ (fun k s z => j7 k s (by omega) (by omega)) (fun k s z => j8 k s (by omega) (by omega)) (in_r R.2.2.2 D mT bτ U' D')⟩
    · rw [ev_e (V := edW (cW r)) (W := W) (fun k s z => ve k s (by omega))]
      exact tk_k (fun k s z => F k s (by omega) (by omega) (by omega) (by omega) (by omega) (by omega)) (fun s => G _ _ (by omega) (by omega) (by omega) (by omega) (by omega)) q7
    · rw [j8 71 14 (by omega) (by omega), p2, j5]
end PR8
