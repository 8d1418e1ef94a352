/-! ===== side by side: put, get, remove, entry, next ===== -/
section PR5
variable {σ τ ρ υ : MS} {W V : WR} {E : EV} {n m k s X M c e q z : Nat} {x y f : Int}
theorem tp_v (h : ∀ j, gI σ 1 j = gI τ 81 j) (s n : Nat) : tpW σ 1 s n = tpW τ 81 s n := by
  unfold tpW
  refine List.map_congr_left fun j _ => ?_
  rw [h]
theorem okm_W (wo : wldO σ W) (hI : invW W) (wm : MP W) (hm : m < 8) (c1 : ¬ wg W 95 m = 0) (h1 : wg W 96 m ≤ 1) : okmC σ m := by
  obtain ⟨⟨b1, b2⟩, b3, b4, b5⟩ := (wm m hm).1 c1
  obtain ⟨⟨k1, k2, k3, k4, k5⟩, a2, _⟩ := wo.1.1 m hm
  have b4 := b4 h1
  have i1 := (hI.1 m hm).1.2.2.2
  rw [okmC, ← k2, ← k3, ← k4, ← k5]
  refine ⟨by omega, b4.1, b4.2, by omega, b5, fun z => ?_⟩
  obtain ⟨⟨c1, c2⟩, c3, _⟩ := a2 z
  rw [← c1]
  refine ⟨i1, fun e he => ?_⟩
  obtain ⟨⟨d1, d2⟩, _⟩ := c3 e he
  rw [← d1]
  exact d2
theorem fin_T (wo : wldO σ W) (hI : invW W) (hb : bOk σ) (hm : m < 8) (o : okmC σ m) : finR W m ((tpW σ 1 0 (wg W 97 m).toNat).map kpW) = (fenT σ m 0).map (cellC σ m) := by
  have r : cqR σ (cmpS σ W) := cq_r
  have hC := cq_C wo hI.2.2.2.1.1.2
  obtain ⟨a1, a2, _⟩ := hC.1.1 m hm
  have i1 := (hI.1 m hm).1
  have q := fin_eC (p := 256) hm (okm_r r o) a1 a2 (cq_b hb)
  have e1 : tpW σ 1 0 (wg W 97 m).toNat = rmC (cmpS σ W) (256 + 0) (wg W 97 m).toNat := tp_rm r (by omega)
  have e2 : fenT σ m 0 = fenC (cmpS σ W) m 256 := fen_r r (by have := o.2.1; omega)
  rw [e1, e2]
  rw [show cellC σ m = cellC (cmpS σ W) m from funext fun e => cel_r r]
  exact q
/-- the tape's count is 0 -/
theorem wo_0 (wo : wldO σ W) (hI : invW W) : wldO (sI σ 0 1 0) W := wldO_g wo hI.2.2.2.1.1.2 (fun k s z => by rw [gI_sI, if_neg (by omega)]) (fun s _ => rfl)
theorem b_0 (hb : bOk σ) : bOk (sI σ 0 1 0) := bOk_w hb (fun y => absurd (show (30 : Nat) = 1 from y) (by decide))
theorem okm_0 (o : okmC σ m) : okmC (sI σ 0 1 0) m := okm_g o fun k s _ => by rw [gI_sI, if_neg (by omega)]
theorem kk_c (h : ¬ noK (evW W) x) : ∃ m : Nat, m < 8 ∧ x = (m : Int) ∧ (0 ≤ (evW W).1 m ∧ (evW W).1 m ≤ 1) ∧ ¬ wg W 95 m = 0 ∧ wg W 96 m ≤ 1 := by
  obtain ⟨m, hm, rfl⟩ := nat8 (x := x) (fun z => h (Or.inl z))
  have h2 : 0 ≤ (evW W).1 m ∧ (evW W).1 m ≤ 1 := Decidable.byContradiction fun z => h (Or.inr z)
  obtain ⟨c1, e1⟩ := ev_1 h2.1
  exact ⟨m, hm, rfl, h2, c1, by omega⟩
theorem nk_0 (R : REL σ) {a b : Nat} {v : Int} (t : MM a [mR (some 0), mI x] σ = some (some (mI v), sI σ 0 1 0)) (t' : MM b [mR (some 80), mI x] (sI σ 0 1 0) = some (some (mI v), sI (sI σ 0 1 0) 80 1 0)) : pI a b [mI x] σ := ⟨_, _, _, t, t', rel_0 R (n := 0) (by omega)⟩
theorem w5_upd {ky val : List Int} (h5 : W5 W) : W5 (updR W m ky val f).1 := by
  have pp : ∀ (u : WR) (c : Nat), W5 u → W5 (putR u m c val) := fun u c h => w5_q h fun k s z => wg_wsL_o (by omega)
  unfold updR
  split
  · exact h5
  · split
    · split
      · exact h5
      · exact pp _ _ h5
    · split
      · exact h5
      · split
        · exact h5
        · split
          · exact h5
          · split
            · exact h5
            · refine pp _ _ fun t ht => ?_
              refine ⟨?_, ?_⟩
              · rw [wg_wset, if_neg (by omega), wg_wset, if_neg (by omega), wg_wsL_o (by omega), wg_wset]
                split
                · exact Or.inr rfl
                · exact (h5 t ht).1
              · rw [wg_wset, if_neg (by omega), wg_wset, if_neg (by omega), wg_wsL_o (by omega), wg_wset, if_neg (by omega)]
                exact (h5 t ht).2
theorem pr_14 (R : REL σ) (hf : -2147483648 ≤ f ∧ f < 2147483648) : pI 307 414 [mI x, mI f] σ := by
  obtain ⟨W, ⟨w1, w2, hI, w5, wm, w8⟩, q7⟩ := R.2.1
  have C := ev_C w2 wm
  have D := ev_R w1 wm
  obtain ⟨n, n4, h1, h2, h3⟩ := rel_tp R
  have D0 : EO (sI σ 0 1 0) (evW W) := EO_g D fun k m z => by rw [gI_sI, if_neg (by omega)]
  by_cases h : noK (evW W) x
  · exact ⟨_, _, _, T307k C h, T414k D0 h, rel_0 R (n := 0) (by omega)⟩
  · obtain ⟨m, hm, rfl, hk, c1, k1⟩ := kk_c h
    have o := okm_W w2 hI wm hm c1 k1
    have e31 : wg W 97 m = gI σ 31 m := (w2.1.1 m hm).1.2.2.1
    have e32 : wg W 98 m = gI σ 32 m := (w2.1.1 m hm).1.2.2.2.1
    have e97 : wg W 97 m = gI σ 97 m := w1.1 97 m (by omega)
    have e98 : wg W 98 m = gI σ 98 m := w1.1 98 m (by omega)
    obtain ⟨q, hq⟩ : ∃ q : Nat, wg W 97 m = (q : Int) := ⟨(wg W 97 m).toNat, by have := o.2.1; omega⟩
    obtain ⟨z, hz⟩ : ∃ z : Nat, wg W 98 m = (z : Int) := ⟨(wg W 98 m).toNat, by have := o.2.2.1; omega⟩
    have o2 := o.2.1
    have o3 := o.2.2.1
    by_cases hl : gI σ 0 1 = gI σ 31 m + gI σ 32 m
    · have t := T307 (f := f) C hm hk o hl hf
      have p := put_C (f := f) (wo_0 w2 hI) hI (b_0 (rel_b R)) hm (okm_0 o)
      have g31 : gI (sI σ 0 1 0) 31 m = gI σ 31 m := by rw [gI_sI, if_neg (by omega)]
      rw [g31] at p
      obtain ⟨τ, hτ⟩ : ∃ τ, τ = (updT (sI σ 0 1 0) m 0 (gI σ 31 m).toNat f).1 := ⟨_, rfl⟩
      rw [p.1, ← hτ] at t
      have p2 := p.2
      rw [← hτ] at p2
      have e2 : τ.2 = σ.2 := by rw [hτ, updT_2]; rfl
      have F : ∀ k s, ¬ (k = 27 ∨ k = 28 ∨ k = 34 ∨ k = 35 ∨ k = 37) → ¬ (k = 0 ∧ s = 1) → gI τ k s = gI σ k s := fun k s y1 y2 => by rw [hτ, updT_o y1, gI_sI, if_neg y2]
      have wlτ : wldR τ W := wdR_k (fun k s z => F k s (by omega) (by omega)) (fun s _ => gL_e e2 _ _) w1
      obtain ⟨υ, t', a1, a2, z8, a3⟩ := T414 (σ := τ) (f := f) (q := q) (z := z) (EO_g D fun k m z => F k m (by omega) (by omega)) hm hk wlτ hI hq hz (by rw [F 80 1 (by omega) (by omega)]; omega) hf
      have tq : (wg W 97 m).toNat = q := by omega
      have tz : (wg W 98 m).toNat = z := by omega
      have et : ∀ j, gI (sI σ 0 1 0) 1 j = gI τ 81 j := fun j => by rw [F 81 j (by omega) (by omega), ← h3 j, gI_sI, if_neg (by omega)]
      rw [tq, tz, tp_v et, tp_v et] at t p2
      have F2 : ∀ k s, ¬ ((k = 27 ∨ k = 28 ∨ k = 34 ∨ k = 35 ∨ k = 37) ∨ (k = 0 ∧ s = 1) ∨ (100 ≤ k ∧ k ≤ 104) ∨ k = 110 ∨ k = 111 ∨ (k = 80 ∧ s = 1)) → gI υ k s = gI σ k s := fun k s y => (a3 k s (by omega) (by omega) (by omega)).trans (F k s (by omega) (by omega))
      have iI := inv_upd (L := tpW τ 81 0 q) (val := (tpW τ 81 q z).map kpW) (y := f) hI hm
      have z0 : gI υ 0 1 = 0 := by rw [a3 0 1 (by omega) (by omega) (by omega), hτ, updT_o (by omega), gI_sI, if_pos ⟨rfl, rfl⟩]
      refine ⟨_, τ, υ, t, t', rel_W R (fun k s y => F2 k s (by omega)) (fun k s _ => gL_e (a2.trans e2) k s) (by rw [a2, e2]) (MM_b (MM_b (rel_b R) t) t') ⟨0, by omega, z0, z8, fun j => by rw [F2 1 j (by omega), F2 81 j (by omega)]; exact h3 j⟩ (ot_k (fun k s y => F2 k s (by omega)) (rel_ot R)) ⟨_, ⟨a1, wldO_g p2 iI.2.2.2.1.1.2 (fun k s y => a3 k s (by omega) (by omega) (by omega)) (fun s _ => gL_e a2 _ _), iI, w5_upd w5, mp_q wm (fun k s y => upR_o (by omega)), k8_upd w8⟩, by rw [ev_e (W := W) (fun k s y => upR_o (by omega))]; exact tk_k (fun k s y => F2 k s (by omega)) (fun s => gL_e (a2.trans e2) _ s) q7⟩⟩
    · refine ⟨_, _, _, T307l C hm hk o hl, T414l (σ := sI σ 0 1 0) D0 hm hk (q := q) (z := z) ?_ (by omega) ?_ (by omega) ?_, rel_0 R (n := 0) (by omega)⟩
      · rw [gI_sI, if_neg (by omega)]
        omega
      · rw [gI_sI, if_neg (by omega)]
        omega
      · rw [gI_sI, if_neg (by omega)]
        omega
theorem pr_15 (R : REL σ) : pI 308 415 [mI x] σ := by
  obtain ⟨W, ⟨w1, w2, hI, w5, wm, w8⟩, q7⟩ := R.2.1
  have C := ev_C w2 wm
  have D := ev_R w1 wm
  obtain ⟨n, n4, h1, h2, h3⟩ := rel_tp R
  have D0 : EO (sI σ 0 1 0) (evW W) := EO_g D fun k m z => by rw [gI_sI, if_neg (by omega)]
  by_cases h : noK (evW W) x
  · exact nk_0 R (T308k C h) (T415k D0 h)
  · obtain ⟨m, hm, rfl, hk, c1, k1⟩ := kk_c h
    have o := okm_W w2 hI wm hm c1 k1
    have e31 : wg W 97 m = gI σ 31 m := (w2.1.1 m hm).1.2.2.1
    have e32 : wg W 98 m = gI σ 32 m := (w2.1.1 m hm).1.2.2.2.1
    have e97 : wg W 97 m = gI σ 97 m := w1.1 97 m (by omega)
    obtain ⟨q, hq⟩ : ∃ q : Nat, wg W 97 m = (q : Int) := ⟨(wg W 97 m).toNat, by have := o.2.1; omega⟩
    obtain ⟨z, hz⟩ : ∃ z : Nat, wg W 98 m = (z : Int) := ⟨(wg W 98 m).toNat, by have := o.2.2.1; omega⟩
    have o2 := o.2.1
    have o3 := o.2.2.1
    by_cases hl : gI σ 0 1 = gI σ 31 m
    · have tq : (wg W 97 m).toNat = q := by omega
      have ft := fin_T (wo_0 w2 hI) hI (b_0 (rel_b R)) hm (okm_0 o)
      rw [tq] at ft
      cases hf : fenT (sI σ 0 1 0) m 0 with
      | none =>
        rw [hf] at ft
        have t := T308o C hm hk o hl hf
        have et : ∀ j, gI (sI σ 0 1 0) 1 j = gI (sI σ 0 1 0) 81 j := fun j => by rw [gI_sI, if_neg (by omega), gI_sI, if_neg (by omega)]; exact h3 j
        rw [tp_v et] at ft
        obtain ⟨υ, t', a1, a2, a3⟩ := T415o (σ := sI σ 0 1 0) (q := q) D0 hm hk (wdR_k (σ := σ) (fun k s z => by rw [gI_sI, if_neg (by omega)]) (fun s _ => rfl) w1) hI hq (by rw [gI_sI, if_neg (by omega)]; omega) ft
        have F2 : ∀ k s, ¬ ((k = 0 ∧ s = 1) ∨ k = 110 ∨ k = 111 ∨ (k = 80 ∧ s = 1)) → gI υ k s = gI σ k s := fun k s y => (a1 k s (by omega) (by omega)).trans (by rw [gI_sI, if_neg (by omega)])
        exact ⟨_, _, υ, t, t', rel_O R (fun k s y => F2 k s (by omega)) (a2.trans rfl) (MM_b (MM_b (rel_b R) t) t') ⟨0, by omega, (a1 0 1 (by omega) (by omega)).trans (by rw [gI_sI, if_pos ⟨rfl, rfl⟩]; rfl), a3, fun j => by rw [F2 1 j (by omega), F2 81 j (by omega)]; exact h3 j⟩ (ot_k (fun k s y => F2 k s (by omega)) (rel_ot R))⟩
      | some e =>
        rw [hf] at ft
        have ft : finR W m ((tpW (sI σ 0 1 0) 1 0 q).map kpW) = some (cellC σ m e) := ft
        obtain ⟨τ, t, ot, qc⟩ := T308 (z := z) (c := cellC σ m e) C hm hk o hl (by omega) hf rfl
        have F : ∀ k s, ¬ (k = 3 ∨ k = 4 ∨ (k = 2 ∧ s = 1)) → ¬ (k = 0 ∧ s = 1) → gI τ k s = gI σ k s := fun k s y1 y2 => (qc.1 k s y1).trans (by rw [gI_sI, if_neg y2])
        have e2 : τ.2 = σ.2 := qc.2
        have et : ∀ j, gI (sI σ 0 1 0) 1 j = gI τ 81 j := fun j => by rw [F 81 j (by omega) (by omega), ← h3 j, gI_sI, if_neg (by omega)]
        rw [tp_v et] at ft
        have c32 := fin_32 hm hI ft
        obtain ⟨υ, t', or, ρ, ⟨a1, a2, a3⟩, qr⟩ := T415 (σ := τ) (q := q) (z := z) (EO_g D fun k m z => F k m (by omega) (by omega)) hm hk (wdR_k (fun k s z => F k s (by omega) (by omega)) (fun s _ => gL_e e2 _ _) w1) hI (MM_b (rel_b R) t) hq hz (by rw [F 80 1 (by omega) (by omega)]; omega) ft
        have F2 : ∀ k s, ¬ (k = 3 ∨ k = 4 ∨ (k = 2 ∧ s = 1) ∨ (k = 0 ∧ s = 1) ∨ k = 110 ∨ k = 111 ∨ (k = 80 ∧ s = 1) ∨ k = 82 ∨ k = 94 ∨ (k = 80 ∧ s = 3)) → gI υ k s = gI σ k s := fun k s y => (qr.1 k s (by omega)).trans ((a1 k s (by omega) (by omega)).trans (F k s (by omega) (by omega)))
        have eb : blko τ 100 ((32 * m + cellC σ m e) * 64) z = blko σ 27 (788 + 64 * (32 * m + cellC σ m e)) z := by
          unfold blko
          refine List.map_congr_left fun i hi => ?_
          have hi := List.mem_range.mp hi
          rw [F 100 _ (by omega) (by omega), ← w1.1 100 _ (by omega), w2.2.2.1 _ (by omega), show 788 + ((32 * m + cellC σ m e) * 64 + i) = 788 + 64 * (32 * m + cellC σ m e) + i by omega]
        rw [eb] at or
        refine ⟨_, τ, υ, t, t', rel_O R (fun k s y => F2 k s (by omega)) (qr.2.trans (a2.trans e2)) (MM_b (MM_b (rel_b R) t) t') ⟨0, by omega, (qr.1 0 1 (by omega)).trans ((a1 0 1 (by omega) (by omega)).trans ((qc.1 0 1 (by omega)).trans (by rw [gI_sI, if_pos ⟨rfl, rfl⟩]; rfl))), (qr.1 80 1 (by omega)).trans a3, fun j => by rw [F2 1 j (by omega), F2 81 j (by omega)]; exact h3 j⟩ ⟨_, by rw [blo_n]; omega, otC_k (fun k s y => (qr.1 k s (by omega)).trans (a1 k s (by omega) (by omega))) ot, or⟩⟩
    · exact nk_0 R (T308l C hm hk hl) (T415l (σ := sI σ 0 1 0) D0 hm hk (q := q) (by rw [gI_sI, if_neg (by omega)]; omega) (by omega) (by rw [gI_sI, if_neg (by omega)]; omega))
theorem pr_16 (R : REL σ) : pI 309 417 [mI x] σ := by
  obtain ⟨W, ⟨w1, w2, hI, w5, wm, w8⟩, q7⟩ := R.2.1
  have C := ev_C w2 wm
  have D := ev_R w1 wm
  obtain ⟨n, n4, h1, h2, h3⟩ := rel_tp R
  have D0 : EO (sI σ 0 1 0) (evW W) := EO_g D fun k m z => by rw [gI_sI, if_neg (by omega)]
  by_cases h : noK (evW W) x
  · exact nk_0 R (T309k C h) (T417k D0 h)
  · obtain ⟨m, hm, rfl, hk, c1, k1⟩ := kk_c h
    have o := okm_W w2 hI wm hm c1 k1
    have e31 : wg W 97 m = gI σ 31 m := (w2.1.1 m hm).1.2.2.1
    have e97 : wg W 97 m = gI σ 97 m := w1.1 97 m (by omega)
    obtain ⟨q, hq⟩ : ∃ q : Nat, wg W 97 m = (q : Int) := ⟨(wg W 97 m).toNat, by have := o.2.1; omega⟩
    have o2 := o.2.1
    by_cases hl : gI σ 0 1 = gI σ 31 m
    · have tq : (wg W 97 m).toNat = q := by omega
      obtain ⟨τ, t, p2, p5, e2, z0, F⟩ := T309 C hm hk w2 hI (rel_b R) o w5 hl
      rw [tq, tp_v (τ := τ) fun j => by rw [F 81 j (by omega) (by omega)]; exact h3 j] at t p2 p5
      obtain ⟨υ, t', a1, ρ, ⟨b1, b2, b3⟩, a2, a3⟩ := T417 (σ := τ) (q := q) (EO_g D fun k m z => F k m (by omega) (by omega)) hm hk (wdR_k (fun k s z => F k s (by omega) (by omega)) (fun s _ => gL_e e2 _ _) w1) hI (by rw [F 80 54 (by omega) (by omega)]; exact R.2.2.1.2) hq (by rw [F 80 1 (by omega) (by omega)]; omega)
      have a3' : ∀ k s, ¬ (101 ≤ k ∧ k ≤ 105) → ¬ (k = 110 ∨ k = 111) → ¬ (k = 80 ∧ s = 1) → gI υ k s = gI τ k s := fun k s y1 y2 y3 => (a3 k s y1).trans (b1 k s y2 y3)
      have F2 : ∀ k s, ¬ ((k = 34 ∨ k = 35 ∨ k = 37 ∨ (k = 26 ∧ s = 12)) ∨ (k = 0 ∧ s = 1) ∨ (101 ≤ k ∧ k ≤ 105) ∨ k = 110 ∨ k = 111 ∨ (k = 80 ∧ s = 1)) → gI υ k s = gI σ k s := fun k s y => (a3' k s (by omega) (by omega) (by omega)).trans (F k s (by omega) (by omega))
      have iI := inv_rem (key := (tpW τ 81 0 q).map kpW) (y := 0) hI hm
      have ee : υ.2 = τ.2 := a2.trans b2
      refine ⟨_, τ, υ, t, t', rel_W R (fun k s y => F2 k s (by omega)) (fun k s _ => gL_e (ee.trans e2) k s) (by rw [ee, e2]) (MM_b (MM_b (rel_b R) t) t') ⟨0, by omega, (a3' 0 1 (by omega) (by omega) (by omega)).trans z0, (a3 80 1 (by omega)).trans b3, fun j => by rw [F2 1 j (by omega), F2 81 j (by omega)]; exact h3 j⟩ (ot_k (fun k s y => F2 k s (by omega)) (rel_ot R)) ⟨_, ⟨a1, wldO_g p2 iI.2.2.2.1.1.2 (fun k s y => a3' k s (by omega) (by omega) (by omega)) (fun s _ => gL_e ee _ _), iI, p5, mp_q wm (fun k s y => reR_o (by omega)), k8_rem w8⟩, by rw [ev_e (W := W) (fun k s y => reR_o (by omega))]; exact tk_k (fun k s y => F2 k s (by omega)) (fun s => gL_e (ee.trans e2) _ s) q7⟩⟩
    · exact nk_0 R (T309l C hm hk hl) (T417l (σ := sI σ 0 1 0) D0 hm hk (q := q) (by rw [gI_sI, if_neg (by omega)]; omega) (by omega) (by rw [gI_sI, if_neg (by omega)]; omega))
theorem pr_17 (R : REL σ) : pI 310 419 [mI x, mI y] σ := by
  obtain ⟨W, ⟨w1, w2, hI, w5, wm, w8⟩, q7⟩ := R.2.1
  have C := ev_C w2 wm
  have D := ev_R w1 wm
  by_cases h : noM (evW W) 1 x
  · exact ⟨_, σ, σ, T310k C h, T419k D h, R⟩
  · obtain ⟨m, hm, rfl⟩ := nat8 (x := x) (fun z => h (Or.inl z))
    have h2 : (evW W).1 m = 1 := Decidable.byContradiction fun z => h (Or.inr z)
    obtain ⟨c1, e1⟩ := ev_1 (W := W) (m := m) (by omega)
    have k1 : wg W 96 m = 1 := e1.symm.trans h2
    obtain ⟨⟨kk1, kk2, kk3, kk4, kk5⟩, a2, _⟩ := w2.1.1 m hm
    obtain ⟨⟨t1, t2⟩, t3, _⟩ := a2 k1
    have e101 : wg W 101 m = gI σ 101 m := w1.1 101 m (by omega)
    by_cases hr : y < 0 ∨ wg W 101 m ≤ y
    · exact ⟨_, σ, σ, T310l C hm h2 (by rw [← t1]; exact hr), T419l D hm h2 (by rw [← e101]; exact hr), R⟩
    · obtain ⟨i, rfl⟩ : ∃ i : Nat, y = (i : Int) := ⟨y.toNat, by omega⟩
      obtain ⟨⟨u1, u2⟩, u3, u4, u5⟩ := t3 i (by omega)
      obtain ⟨c, hc⟩ : ∃ c : Nat, wg W 103 (16 * m + i) = (c : Int) := ⟨(wg W 103 (16 * m + i)).toNat, by omega⟩
      have e97 : wg W 97 m = gI σ 97 m := w1.1 97 m (by omega)
      have e98 : wg W 98 m = gI σ 98 m := w1.1 98 m (by omega)
      have e103 : wg W 103 (16 * m + i) = gI σ 103 (16 * m + i) := w1.1 103 _ (by omega)
      obtain ⟨_, _, b4, _⟩ := (wm m hm).1 c1
      have b4 := b4 (by omega)
      obtain ⟨q, hq⟩ : ∃ q : Nat, wg W 97 m = (q : Int) := ⟨(wg W 97 m).toNat, by omega⟩
      obtain ⟨z, hz⟩ : ∃ z : Nat, wg W 98 m = (z : Int) := ⟨(wg W 98 m).toNat, by omega⟩
      have tc : (wg W 103 (16 * m + i)).toNat = c := by omega
      rw [tc] at u5
      obtain ⟨τ, t, ot, qc⟩ := T310 (i := i) (c := c) (q := q) (z := z) C hm h2 (by omega) (by omega) (by omega) (by omega) (by omega) (by omega) (by omega) (by omega) (by omega)
      have F : ∀ k s, ¬ (k = 3 ∨ k = 4 ∨ (k = 2 ∧ s = 1)) → gI τ k s = gI σ k s := qc.1
      have bτ := MM_b (rel_b R) t
      obtain ⟨υ, t', or, qr⟩ := T419 (σ := τ) (i := i) (c := c) (q := q) (z := z) (EO_g D fun k m z => F k m (by omega)) hm h2 (by rw [F 101 m (by omega)]; omega) (by rw [F 101 m (by omega)]; omega) (by rw [F 103 _ (by omega)]; omega) (by omega) (by rw [F 97 m (by omega)]; omega) (by omega) (by rw [F 98 m (by omega)]; omega) (by omega) bτ
      have F2 : ∀ k s, ¬ (k = 3 ∨ k = 4 ∨ (k = 2 ∧ s = 1) ∨ k = 82 ∨ k = 94 ∨ (k = 80 ∧ s = 3)) → gI υ k s = gI σ k s := fun k s y => (qr.1 k s (by omega)).trans (F k s (by omega))
      have eb : blko τ 100 ((32 * m + c) * 64) z = blko σ 27 (788 + 64 * (32 * m + c)) z := by
        unfold blko
        refine List.map_congr_left fun i hi => ?_
        have hi := List.mem_range.mp hi
        rw [F 100 _ (by omega), ← w1.1 100 _ (by omega), w2.2.2.1 _ (by omega), show 788 + ((32 * m + c) * 64 + i) = 788 + 64 * (32 * m + c) + i by omega]
      have ek : blko τ 102 (256 * m + 16 * i) q = blko σ 28 (16 * (32 * m + c)) q := by
        unfold blko
        refine List.map_congr_left fun j hj => ?_
        have hj := List.mem_range.mp hj
        rw [F 102 _ (by omega), ← w1.1 102 _ (by omega)]
        exact u5 j (by omega) (by omega)
      rw [eb, ek] at or
      exact ⟨_, τ, υ, t, t', rel_O R (fun k s y => F2 k s (by omega)) (qr.2.trans qc.2) (MM_b bτ t') (tp_k (fun k s y => F2 k s (by omega)) (rel_tp R)) ⟨_, by rw [List.length_append, blo_n, blo_n]; omega, otC_k (fun k s y => qr.1 k s (by omega)) ot, or⟩⟩
theorem pr_20 (R : REL σ) : pI 313 422 [mI x] σ := by
  obtain ⟨W, ⟨w1, w2, hI, w5, wm, w8⟩, q7⟩ := R.2.1
  have C := ev_C w2 wm
  have D := ev_R w1 wm
  by_cases h : noM (evW W) 3 x
  · exact ⟨_, σ, σ, T313k C h, T422k D h, R⟩
  · obtain ⟨m, hm, rfl⟩ := nat8 (x := x) (fun z => h (Or.inl z))
    have h2 : (evW W).1 m = 3 := Decidable.byContradiction fun z => h (Or.inr z)
    obtain ⟨c1, e1⟩ := ev_1 (W := W) (m := m) (by omega)
    have k3 : wg W 96 m = 3 := e1.symm.trans h2
    obtain ⟨⟨kk1, kk2, kk3, kk4, kk5⟩, _, _, a4, _⟩ := w2.1.1 m hm
    obtain ⟨⟨r1, r2⟩, r3, r4⟩ := a4 k3
    have e107 : wg W 107 m = gI σ 107 m := w1.1 107 m (by omega)
    have i6 := hI.2.2.2.2.2.1 m hm
    by_cases h0 : wg W 107 m = 0
    · exact ⟨_, σ, σ, T313l C hm h2 (r1.symm.trans h0), T422l D hm h2 (e107.symm.trans h0), R⟩
    · obtain ⟨N, hN⟩ : ∃ N : Nat, wg W 107 m = ((N + 1 : Nat) : Int) := ⟨(wg W 107 m).toNat - 1, by omega⟩
      obtain ⟨⟨s1, s2⟩, s3, ⟨s4, s5⟩, s6, s7⟩ := r4 0 (by omega)
      rw [Nat.add_zero] at s1 s2 s3 s4 s5
      obtain ⟨c, hc⟩ : ∃ c : Nat, gI σ 35 (16 * m) = (c : Int) := ⟨(gI σ 35 (16 * m)).toNat, by omega⟩
      have tc : (gI σ 35 (16 * m)).toNat = c := by omega
      have s6 : ∀ b : Nat, (b : Int) < wg W 108 (16 * m) → wg W 109 (1024 * m + b) = gI σ 27 (17172 + 64 * (16 * m + c) + b) := fun b hb => by
        have q := s6 b hb
        have e35 : gI σ 35 (16 * m + 0) = (c : Int) := hc
        rw [e35, Int.toNat_natCast] at q
        exact q
      rw [tc] at s4
      have z0 := w8.2.1 (16 * m)
      obtain ⟨z, hz⟩ : ∃ z : Nat, wg W 108 (16 * m) = (z : Int) := ⟨(wg W 108 (16 * m)).toNat, by omega⟩
      obtain ⟨ρ, ⟨e2, g⟩, τ, t, ot, qc⟩ := T313 (N := N) (c := c) (z := z) C hm h2 hc (by omega) (by omega) (by omega) (by omega) (by omega)
      have F0 : ∀ k s, ¬ (k = 34 ∨ k = 35 ∨ k = 37) → gI ρ k s = gI σ k s := fun k s y => by rw [g, if_neg (by omega), if_neg (by omega), if_neg (by omega)]
      have F : ∀ k s, ¬ (k = 3 ∨ k = 4 ∨ (k = 2 ∧ s = 1) ∨ k = 34 ∨ k = 35 ∨ k = 37) → gI τ k s = gI σ k s := fun k s y => (qc.1 k s (by omega)).trans (F0 k s (by omega))
      have eτ : τ.2 = σ.2 := qc.2.trans e2
      have bτ := MM_b (rel_b R) t
      have iI := next_I (N := N) hI hm hN
      have p2 := next_C (N := N) (c := c) w2 hI hm k3 c1 hN (by omega) hc e2 g
      obtain ⟨υ, t', or, a1, a2, a3⟩ := T422 (σ := τ) (N := N) (z := z) (EO_g D fun k m z => F k m (by omega)) hm h2 (wdR_k (fun k s z => F k s (by omega)) (fun s _ => gL_e eτ _ _) w1) bτ hN (by omega) hz (by omega)
      have F2 : ∀ k s, ¬ (k = 3 ∨ k = 4 ∨ (k = 2 ∧ s = 1) ∨ k = 34 ∨ k = 35 ∨ k = 37 ∨ k = 82 ∨ k = 94 ∨ (k = 80 ∧ s = 3) ∨ (107 ≤ k ∧ k ≤ 109)) → gI υ k s = gI σ k s := fun k s y => (a3 k s (by omega) (by omega)).trans (F k s (by omega))
      have eb : blko τ 109 (1024 * m) z = blko σ 27 (17172 + 64 * (16 * m + c)) z := by
        unfold blko
        refine List.map_congr_left fun j hj => ?_
        have hj := List.mem_range.mp hj
        rw [F 109 _ (by omega), ← w1.1 109 _ (by omega)]
        exact s6 j (by omega)
      rw [eb] at or
      have v : ∀ k s, ¬ (107 ≤ k ∧ k ≤ 109) → wg (nexW W m N) k s = wg W k s := fun k s y => by rw [nxW, if_neg (by omega), if_neg (by omega), if_neg (by omega)]
      exact ⟨_, τ, υ, t, t', rel_W R (fun k s y => F2 k s (by omega)) (fun k s _ => gL_e (a2.trans eτ) k s) (by rw [a2, eτ]) (MM_b bτ t') (tp_k (fun k s y => F2 k s (by omega)) (rel_tp R)) ⟨_, by rw [blo_n]; omega, otC_k (fun k s y => a3 k s (by omega) (by omega)) ot, or⟩ ⟨nexW W m N, ⟨a1, wldO_g p2 iI.2.2.2.1.1.2 (fun k s y => (a3 k s (by omega) (by omega)).trans (qc.1 k s (by omega))) (fun s _ => gL_e (a2.trans qc.2) _ _), iI, w5_q w5 (fun k s y => v k s (by omega)), mp_q wm (fun k s y => v k s (by omega)), k8_nex w8⟩, by rw [ev_e (W := W) (fun k s y => v k s (by omega))]; exact tk_k (fun k s y => F2 k s (by omega)) (fun s => gL_e (a2.trans eτ) _ s) q7⟩⟩
end PR5
