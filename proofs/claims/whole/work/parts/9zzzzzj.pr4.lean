/-! ===== side by side: maps ===== -/
section PR4
variable {σ τ ρ υ : MS} {W V : WR} {E : EV} {n m k s X M : Nat} {x y f kd1 key value most : Int} {p p' : Nat → B64} {w : B64}
theorem pr_18 (R : REL σ) : pI 311 420 [mI x] σ := by
  obtain ⟨W, ⟨w1, w2, hI, w5, wm, w8⟩, q7⟩ := R.2.1
  have C := ev_C w2 wm
  have D := ev_R w1 wm
  by_cases h : (x < 0 ∨ 8 ≤ x) ∨ (evW W).1 x.toNat < 0
  · exact ⟨_, σ, σ, T311n C h, T420n D h, R⟩
  · obtain ⟨m, hm, rfl⟩ := nat8 (x := x) (fun z => h (Or.inl z))
    have h0 : 0 ≤ (evW W).1 m := by
      have : ¬ (evW W).1 ((m : Int)).toNat < 0 := fun z => h (Or.inr z)
      rw [Int.toNat_natCast] at this
      omega
    have t := T420 (σ := σ) D hm h0
    obtain ⟨c1, e1⟩ := ev_1 h0
    obtain ⟨_, a2, a3, a4, _⟩ := w2.1.1 m hm
    have b := ((wm m hm).1 c1).1
    rw [e1] at t
    refine ⟨_, σ, σ, T311 C hm h0, ?_, R⟩
    by_cases k0 : wg W 96 m = 0
    · rw [if_pos k0] at t
      rw [a3.2 k0, w1.1 99 m (by omega)]
      exact t
    · rw [if_neg k0] at t
      by_cases k1 : wg W 96 m = 1
      · rw [if_pos k1] at t
        rw [← (a2 k1).1.1, w1.1 101 m (by omega)]
        exact t
      · rw [if_neg k1] at t
        by_cases k2 : wg W 96 m = 2
        · rw [if_pos k2] at t
          rw [(a3.1 k2).2, cnP_J, ← cnI_J (σ := σ) 16 (fun x => (w1.1 106 _ (by omega)).symm)]
          exact t
        · rw [if_neg k2] at t
          rw [← (a4 (by omega)).1.1, w1.1 107 m (by omega)]
          exact t
/-! map -/
theorem tel_e (m : Nat) (hm : m < 8) (u : wg W 95 m = 0) (o : ∀ m : Nat, m < 8 → (evW W).1 m < 0 → (evW W).2.2 m ≤ 0) : extE (evW W) (evW (telW W m kd1 key value most)) := fun i hi => by
  refine ⟨fun z => ?_, fun z => o i hi z⟩
  have c := (ev_1 z).1
  have ne : ¬ i = m := fun e => c (by rw [e]; exact u)
  have e5 : wg (telW W m kd1 key value most) 95 i = wg W 95 i := tlW_o (by omega)
  have e6 : wg (telW W m kd1 key value most) 96 i = wg W 96 i := tlW_o (by omega)
  have e7 : wg (telW W m kd1 key value most) 97 i = wg W 97 i := tlW_o (by omega)
  have e8 : wg (telW W m kd1 key value most) 98 i = wg W 98 i := tlW_o (by omega)
  refine ⟨?_, e7, e8⟩
  show (if wg (telW W m kd1 key value most) 95 i = 0 then (-1 : Int) else wg (telW W m kd1 key value most) 96 i) = if wg W 95 i = 0 then -1 else wg W 96 i
  rw [e5, e6]
theorem tel_M (wm : MP W) (hs : shpM kd1 key value) (ht : 1 ≤ most ∧ most ≤ 16) : MP (telW W m kd1 key value most) := fun i hi => by
  by_cases c : i = m
  · have v96 : wg (telW W m kd1 key value most) 96 m = kd1 := by rw [tlW, if_neg (by omega), if_neg (by omega), if_neg (by omega), if_neg (by omega), if_pos ⟨rfl, rfl⟩]
    have v97 : wg (telW W m kd1 key value most) 97 m = key := by rw [tlW, if_neg (by omega), if_neg (by omega), if_neg (by omega), if_pos ⟨rfl, rfl⟩]
    have v98 : wg (telW W m kd1 key value most) 98 m = value := by rw [tlW, if_neg (by omega), if_neg (by omega), if_pos ⟨rfl, rfl⟩]
    have v99 : wg (telW W m kd1 key value most) 99 m = most := by rw [tlW, if_neg (by omega), if_pos ⟨rfl, rfl⟩]
    rw [c, v96, v97, v98, v99]
    refine ⟨fun _ => ⟨by omega, ht, fun _ => by omega, fun _ => by omega⟩, fun x hx => ?_⟩
    rw [tlW, if_pos ⟨rfl, by omega, by omega⟩]
    exact Int.le_refl _
  · rw [tlW_o (k := 95) (by omega), tlW_o (k := 96) (by omega), tlW_o (k := 97) (by omega), tlW_o (k := 98) (by omega), tlW_o (k := 99) (by omega)]
    refine ⟨(wm i hi).1, fun x hx => ?_⟩
    rw [tlW_o (k := 106) (by omega)]
    exact (wm i hi).2 x hx
theorem tkn_x {E' : EV} (hE : okE E) (hx : extE E E') (h : tkn E p n) : tkn E' p n := by
  obtain ⟨n0, S, f, w, h1, h2, h3⟩ := h
  exact ⟨n0, S, f, w, h1, h2, wlk_ext hE hx (okp_n n0 h1 h2).1 f true _ w _ (beg_n n0 h1 h2) h3⟩
theorem pr_13 (R : REL σ) : pI 306 406 [mI x, mI kd1, mI key, mI value, mI most] σ := by
  obtain ⟨W, ⟨w1, w2, hI, w5, wm, w8⟩, q7⟩ := R.2.1
  by_cases h : (x < 0 ∨ 8 ≤ x) ∨ (∃ m : Nat, m < 8 ∧ x = (m : Int) ∧ ¬ wg W 95 m = 0) ∨ ¬ shpM kd1 key value ∨ ¬ (1 ≤ most ∧ most ≤ 16)
  · have h1 : (x < 0 ∨ 8 ≤ x) ∨ (∃ m : Nat, m < 8 ∧ x = (m : Int) ∧ ¬ gI σ 29 m = 0) ∨ ¬ shpM kd1 key value ∨ ¬ (1 ≤ most ∧ most ≤ 16) := by
      rcases h with h | ⟨m, a, b, c⟩ | h
      · exact Or.inl h
      · exact Or.inr (Or.inl ⟨m, a, b, by rw [← (w2.1.1 m a).1.1]; exact c⟩)
      · exact Or.inr (Or.inr h)
    have h2 : (x < 0 ∨ 8 ≤ x) ∨ (∃ m : Nat, m < 8 ∧ x = (m : Int) ∧ ¬ gI σ 95 m = 0) ∨ ¬ shpM kd1 key value ∨ ¬ (1 ≤ most ∧ most ≤ 16) := by
      rcases h with h | ⟨m, a, b, c⟩ | h
      · exact Or.inl h
      · exact Or.inr (Or.inl ⟨m, a, b, by rw [← w1.1 95 m (by omega)]; exact c⟩)
      · exact Or.inr (Or.inr h)
    exact ⟨_, σ, σ, T306n h1, T406n h2, R⟩
  · obtain ⟨m, hm, rfl⟩ := nat8 (x := x) (fun z => h (Or.inl z))
    have u : wg W 95 m = 0 := Decidable.byContradiction fun z => h (Or.inr (Or.inl ⟨m, hm, rfl, z⟩))
    have hs : shpM kd1 key value := Decidable.byContradiction fun z => h (Or.inr (Or.inr (Or.inl z)))
    have ht : 1 ≤ most ∧ most ≤ 16 := Decidable.byContradiction fun z => h (Or.inr (Or.inr (Or.inr z)))
    obtain ⟨τ, t, e1, g⟩ := T306 (σ := σ) hm ((w2.1.1 m hm).1.1.symm.trans u) hs ht
    have F : ∀ k s, ¬ ((29 ≤ k ∧ k ≤ 35)) → gI τ k s = gI σ k s := fun k s z => by rw [g, tlC_o (by omega)]
    have wlτ : wldR τ W := wdR_k (fun k s z => F k s (by omega)) (fun s _ => gL_e e1 _ _) w1
    obtain ⟨υ, t', a1, a2, a3⟩ := T406 hm wlτ ((F 95 m (by omega)).trans ((w1.1 95 m (by omega)).symm.trans u)) hs ht
    have F2 : ∀ k s, ¬ ((29 ≤ k ∧ k ≤ 35) ∨ (95 ≤ k ∧ k ≤ 99) ∨ k = 106) → gI υ k s = gI σ k s := fun k s z => (a3 k s (by omega)).trans (F k s (by omega))
    refine ⟨_, τ, υ, t, t', rel_W R (fun k s z => F2 k s (by omega)) (fun k s _ => gL_e (a2.trans e1) k s) (by rw [a2, e1]) (MM_b (MM_b (rel_b R) t) t') (tp_k (fun k s z => F2 k s (by omega)) (rel_tp R)) (ot_k (fun k s z => F2 k s (by omega)) (rel_ot R)) ⟨telW W m kd1 key value most, ⟨a1, wldO_g (tell_C w2 hI hm u e1 g) (tell_I w2 hI hm u hs ht).2.2.2.1.1.2 (fun k s z => a3 k s (by omega)) (fun s _ => gL_e a2 _ _), tell_I w2 hI hm u hs ht, w5_q w5 (fun k s z => tlW_o (by omega)), tel_M wm hs ht, k8_tel w8⟩, fun i hi z => ?_, fun y hy z => ?_⟩⟩
    · have z : (if wg (telW W m kd1 key value most) 95 i = 0 then (-1 : Int) else wg (telW W m kd1 key value most) 96 i) < 0 := z
      show wg (telW W m kd1 key value most) 98 i ≤ 0
      by_cases c : i = m
      · have v95 : wg (telW W m kd1 key value most) 95 m = 1 := by rw [tlW, if_neg (by omega), if_neg (by omega), if_neg (by omega), if_neg (by omega), if_neg (by omega), if_pos ⟨rfl, rfl⟩]
        have v96 : wg (telW W m kd1 key value most) 96 m = kd1 := by rw [tlW, if_neg (by omega), if_neg (by omega), if_neg (by omega), if_neg (by omega), if_pos ⟨rfl, rfl⟩]
        rw [c, v95, v96, if_neg (by decide)] at z
        exfalso
        omega
      · rw [tlW_o (k := 95) (by omega), tlW_o (k := 96) (by omega)] at z
        rw [tlW_o (k := 98) (by omega)]
        exact q7.1 i hi z
    · rw [F2 85 y (by omega)] at z
      have e : (fun j => gL υ 83 (200 * y + j)) = fun j => gL σ 83 (200 * y + j) := funext fun j => gL_e (a2.trans e1) _ _
      rw [e, F2 84 y (by omega)]
      exact tkn_x (ev_ok wm) (tel_e m hm u q7.1) (q7.2 y hy z)
/-! link -/
theorem pr_19 (R : REL σ) (hy : -2147483648 ≤ y ∧ y < 2147483648) : pI 312 421 [mI x, mI y, mI f] σ := by
  obtain ⟨W, ⟨w1, w2, hI, w5, wm, w8⟩, q7⟩ := R.2.1
  have C := ev_C w2 wm
  have D := ev_R w1 wm
  by_cases h : noM (evW W) 2 x
  · exact ⟨_, σ, σ, T312k C h, T421k D h, R⟩
  · obtain ⟨m, hm, rfl⟩ := nat8 (x := x) (fun z => h (Or.inl z))
    have h2 : (evW W).1 m = 2 := Decidable.byContradiction fun z => h (Or.inr z)
    obtain ⟨c1, e1⟩ := ev_1 (W := W) (m := m) (by omega)
    have k2 : wg W 96 m = 2 := e1.symm.trans h2
    have e33 : wg W 99 m = gI σ 33 m := (w2.1.1 m hm).1.2.2.2.2
    have e99 : wg W 99 m = gI σ 99 m := w1.1 99 m (by omega)
    by_cases hr : (y < 0 ∨ wg W 99 m ≤ y) ∨ (f < -1 ∨ 8 ≤ f)
    · exact ⟨_, σ, σ, T312l C hm h2 (by rw [← e33]; exact hr), T421l D hm h2 (by rw [← e99]; exact hr), R⟩
    · obtain ⟨i, rfl⟩ : ∃ i : Nat, y = (i : Int) := ⟨y.toNat, by omega⟩
      have b9 := ((wm m hm).1 c1).2.1
      have cp := ((w2.1.1 m hm).2.2.1.1 k2).2
      have cb : 0 ≤ gI σ 34 m ∧ gI σ 34 m ≤ 100 := by
        have q := cnI_b (σ := σ) (m := m) 16
        rw [cnI_J (W := W) 16 (fun x => (w1.1 106 _ (by omega)).symm), ← cnP_J] at q
        omega
      have t := T312 C hm h2 (i := i) (by omega) (by omega) cb (f := f) (by omega)
      obtain ⟨τ, hτ⟩ : ∃ τ, τ = sI (sI σ 34 m (gI σ 34 m + ((if f = -1 then 0 else 1) - (if gI σ 35 (16 * m + i) = -1 then 0 else 1)))) 35 (16 * m + i) f := ⟨_, rfl⟩
      rw [← hτ] at t
      have F : ∀ k s, ¬ (k = 34 ∨ k = 35) → gI τ k s = gI σ k s := fun k s z => by rw [hτ, gI_sI, if_neg (by omega), gI_sI, if_neg (by omega)]
      have e2 : τ.2 = σ.2 := by rw [hτ]; rfl
      have t' := T421 (σ := τ) (EO_g D fun k m z => F k m (by omega)) hm h2 (i := i) (by rw [F 99 m (by omega)]; omega) (by rw [F 99 m (by omega)]; omega) (f := f) (by omega)
      have F2 : ∀ k s, ¬ (k = 34 ∨ k = 35 ∨ k = 106) → gI (sI τ 106 (16 * m + i) f) k s = gI σ k s := fun k s z => by rw [gI_sI, if_neg (by omega), F k s (by omega)]
      have wc := link_C w2 hI hm k2 c1 (i := i) (f := f) (by omega) (by omega) ((wm m hm).2 i (by omega))
      rw [← hτ] at wc
      have hI' := link_I (W := W) (c := 16 * m + i) (f := f) hI (by omega)
      have v : ∀ k s, ¬ k = 106 → wg (wset W 106 (16 * m + i) f) k s = wg W k s := fun k s z => by rw [wg_wset, if_neg (fun q => z q.1)]
      refine ⟨_, τ, _, t, t', rel_W R (fun k s z => F2 k s (by omega)) (fun k s _ => gL_e (υ := sI τ 106 (16 * m + i) f) e2 k s) (by show τ.2.2 = _; rw [e2]) (MM_b (MM_b (rel_b R) t) t') (tp_k (fun k s z => F2 k s (by omega)) (rel_tp R)) (ot_k (fun k s z => F2 k s (by omega)) (rel_ot R)) ⟨wset W 106 (16 * m + i) f, ⟨wld_I (wdR_k (fun k s z => F k s (by omega)) (fun s _ => gL_e e2 _ _) w1), wldO_g wc hI'.2.2.2.1.1.2 (fun k s z => by rw [gI_sI, if_neg (by omega)]) (fun s _ => rfl), hI', w5_q w5 (fun k s z => v k s (by omega)), fun j hj => ?_, k8_lnk w8 (by omega)⟩, by rw [ev_e (V := wset W 106 (16 * m + i) f) (W := W) (fun k s z => v k s (by omega))]; exact tk_k (fun k s z => F2 k s (by omega)) (fun s => gL_e (υ := sI τ 106 (16 * m + i) f) e2 _ s) q7⟩⟩
      rw [v 95 _ (by omega), v 96 _ (by omega), v 97 _ (by omega), v 98 _ (by omega), v 99 _ (by omega)]
      refine ⟨(wm j hj).1, fun z hz => ?_⟩
      rw [wg_wset]
      split
      · omega
      · exact (wm j hj).2 z hz
end PR4
