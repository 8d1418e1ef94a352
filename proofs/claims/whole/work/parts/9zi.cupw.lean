/-! ===== the class's runs: UPDATE, as the rest of the machine has it ===== -/
section CUPW
variable {σ τ ρ : MS} {W V : WR} {m n p q p0 e j i c z : Nat} {L : List B64} {y k : Int} {E : EV} {φ : Nat → Nat} {x : B64}
theorem rm_len : (rmC σ p n).length = n := by
  unfold rmC
  rw [List.length_map, List.length_range']
theorem vp_W (h : wldC σ φ W) (hb : bOk σ) (hm : m < 8) (hc : c < 32) (pk : wg W 80 105 ≤ 256) (e8 : gI σ 32 m = (z : Int)) (ez : wg W 98 m = (z : Int)) (hz : z ≤ 64) : wldC (vpC σ m c q) φ (putR W m c ((rmC σ q z).map kpW)) := by
  obtain ⟨hM, k4, k5, k6, k7, k8, k9, k10, k11⟩ := h
  have g : ∀ k s, gI (vpC σ m c q) k s = if k = 27 ∧ 788 + 64 * (32 * m + c) ≤ s ∧ s < 788 + 64 * (32 * m + c) + z then gI σ 27 (s - (788 + 64 * (32 * m + c)) + q) else gI σ k s := fun k s => by
    unfold vpC
    rw [e8, cpI_p]
  have gn : ∀ k s, ¬ (k = 27 ∧ 788 ≤ s ∧ s < 17172) → gI (vpC σ m c q) k s = gI σ k s := fun k s y => by
    rw [g, if_neg (by omega)]
  have ev : putR W m c ((rmC σ q z).map kpW) = wsL W 100 ((32 * m + c) * 64) ((rmC σ q z).map kpW) := by
    unfold putR
    rw [ez, Int.toNat_natCast, List.take_of_length_le (by rw [List.length_map, rm_len]; exact Nat.le_refl _)]
  have wv : ∀ k s, ¬ k = 100 → wg (putR W m c ((rmC σ q z).map kpW)) k s = wg W k s := fun k s y => by
    rw [ev, wg_wsL_o y]
  refine ⟨wldM_r hM (fun k s y => gn _ _ (by omega)) (fun s y => gn _ _ (by omega)) (fun k s y => wv _ _ (by omega)), fun s hs => ?_, wcQ_q k5 pk (fun s y => gn _ _ (by omega)) (fun s => wv _ _ (by omega)) (wv _ _ (by omega)), wcZ_q k6 (fun s y => gn _ _ (by omega)) (fun s y => wv _ _ (by omega)), wcG_q k7 (fun s => gn _ _ (by omega)) (fun s => wv _ _ (by omega)), wcX_q k8 (fun s => gn _ _ (by omega)) (fun s => wv _ _ (by omega)) (wv _ _ (by omega)), wcC_q k9 (fun s y => gn _ _ (by omega)) (wv _ _ (by omega)), wcY_q k10 (fun s y => gn _ _ (by omega)) (fun s y => wv _ _ (by omega)), wcL_q k11 rfl rfl (by rw [ev]; rfl)⟩
  rw [ev, g]
  show (if 100 = 100 ∧ (32 * m + c) * 64 ≤ s ∧ s < (32 * m + c) * 64 + ((rmC σ q z).map kpW).length then ((rmC σ q z).map kpW).getD (s - (32 * m + c) * 64) 0 else W.1 100 s) = _
  rw [List.length_map, rm_len]
  by_cases y : (32 * m + c) * 64 ≤ s ∧ s < (32 * m + c) * 64 + z
  · rw [if_pos ⟨rfl, y⟩, if_pos ⟨rfl, by omega, by omega⟩, rm_get (by omega) hb, show 788 + s - (788 + 64 * (32 * m + c)) + q = q + (s - (32 * m + c) * 64) by omega]
  · rw [if_neg (fun v => y v.2), if_neg (by omega)]
    exact k4 s hs
theorem nw_W {N : Nat} (h : wldC σ φ W) (hb : bOk σ) (hm : m < 8) (hc : c < 32) (pk : wg W 80 105 ≤ 256) (k1 : wg W 96 m = 1) (eN : gI σ 34 m = (N : Int)) (hN : N < 16) (hf : gI σ 37 (32 * m + c) = 0) (e7 : gI σ 31 m = (z : Int)) (ez : wg W 97 m = (z : Int)) (hz : z ≤ 16) :
    wldC (nwC σ m p c) φ (wset (wset (wsL (wset W 104 (32 * m + c) 1) 102 (256 * m + 16 * (wg W 101 m).toNat) (((rmC σ p z).map kpW).take (wg W 97 m).toNat)) 103 (16 * m + (wg W 101 m).toNat) c) 101 m (wg W 101 m + 1)) := by
  obtain ⟨hM, k4, k5, k6, k7, k8, k9, k10, k11⟩ := h
  obtain ⟨a1, a2, a3, a4, a5, a6⟩ := hM.1 m hm
  obtain ⟨⟨t1, t0⟩, t2, t3⟩ := a2 k1
  have w1 : wg W 101 m = (N : Int) := t1.trans eN
  have tk : ((rmC σ p z).map kpW).take (wg W 97 m).toNat = (rmC σ p z).map kpW := by
    rw [ez, Int.toNat_natCast, List.take_of_length_le (by rw [List.length_map, rm_len]; exact Nat.le_refl _)]
  rw [tk, w1, Int.toNat_natCast]
  obtain ⟨V, hV⟩ : ∃ V, V = wset (wset (wsL (wset W 104 (32 * m + c) 1) 102 (256 * m + 16 * N) ((rmC σ p z).map kpW)) 103 (16 * m + N) c) 101 m ((N : Int) + 1) := ⟨_, rfl⟩
  rw [← hV]
  have g : ∀ k s, gI (nwC σ m p c) k s = if k = 34 ∧ s = m then (N : Int) + 1 else if k = 35 ∧ s = 16 * m + N then (c : Int) else if k = 37 ∧ s = 32 * m + c then 1 else if k = 28 ∧ 16 * (32 * m + c) ≤ s ∧ s < 16 * (32 * m + c) + z then gI σ 27 (s - 16 * (32 * m + c) + p) else gI σ k s := fun k s => by
    unfold nwC
    rw [gI_sI, gI_sI, gI_sI, e7, eN, cpI_p, Int.toNat_natCast]
  have v : ∀ k s, wg V k s = if k = 101 ∧ s = m then (N : Int) + 1 else if k = 103 ∧ s = 16 * m + N then (c : Int) else if k = 102 ∧ 256 * m + 16 * N ≤ s ∧ s < 256 * m + 16 * N + z then gI σ 27 (p + (s - (256 * m + 16 * N))) else if k = 104 ∧ s = 32 * m + c then 1 else wg W k s := fun k s => by
    rw [hV, wg_wset, wg_wset]
    by_cases y1 : k = 101 ∧ s = m
    · rw [if_pos y1, if_pos y1]
    · rw [if_neg y1, if_neg y1]
      by_cases y2 : k = 103 ∧ s = 16 * m + N
      · rw [if_pos y2, if_pos y2]
      · rw [if_neg y2, if_neg y2]
        show (if k = 102 ∧ 256 * m + 16 * N ≤ s ∧ s < 256 * m + 16 * N + ((rmC σ p z).map kpW).length then ((rmC σ p z).map kpW).getD (s - (256 * m + 16 * N)) 0 else wg (wset W 104 (32 * m + c) 1) k s) = _
        rw [List.length_map, rm_len]
        by_cases y3 : k = 102 ∧ 256 * m + 16 * N ≤ s ∧ s < 256 * m + 16 * N + z
        · rw [if_pos y3, if_pos y3, rm_get (by omega) hb]
        · rw [if_neg y3, if_neg y3, wg_wset]
  have gn : ∀ k s, ¬ (k = 28 ∨ k = 34 ∨ k = 35 ∨ k = 37) → gI (nwC σ m p c) k s = gI σ k s := fun k s y => by
    rw [g, if_neg (by omega), if_neg (by omega), if_neg (by omega), if_neg (by omega)]
  have vn : ∀ k s, ¬ (101 ≤ k ∧ k ≤ 104) → wg V k s = wg W k s := fun k s y => by
    rw [v, if_neg (by omega), if_neg (by omega), if_neg (by omega), if_neg (by omega)]
  have v2 : V.2 = W.2 := by rw [hV]; rfl
  have g2 : (nwC σ m p c).2 = σ.2 := rfl
  -- entries that stood there
  have old : ∀ e : Nat, e < N → wg V 103 (16 * m + e) = wg W 103 (16 * m + e) ∧ ¬ (wg W 103 (16 * m + e)).toNat = c := fun e he => by
    refine ⟨by rw [v, if_neg (by omega), if_neg (by omega), if_neg (by omega), if_neg (by omega)], fun y => ?_⟩
    have := (t2 e (by omega)).2.1
    rw [y, hf] at this
    exact absurd this (by decide)
  have new : wg V 103 (16 * m + N) = (c : Int) := by rw [v, if_neg (by omega), if_pos ⟨rfl, rfl⟩]
  have v4 : ∀ i, i < 32 → wg V 104 (32 * m + i) = if i = c then 1 else wg W 104 (32 * m + i) := fun i hi => by
    rw [v, if_neg (by omega), if_neg (by omega), if_neg (by omega)]
    by_cases q : i = c
    · rw [if_pos q, if_pos ⟨rfl, by omega⟩]
    · rw [if_neg q, if_neg (by omega)]
  have g7 : ∀ i, i < 32 → gI (nwC σ m p c) 37 (32 * m + i) = if i = c then 1 else gI σ 37 (32 * m + i) := fun i hi => by
    rw [g, if_neg (by omega), if_neg (by omega)]
    by_cases q : i = c
    · rw [if_pos q, if_pos ⟨rfl, by omega⟩]
    · rw [if_neg q, if_neg (by omega), if_neg (by omega)]
  have v97 : wg V 97 m = (z : Int) := (vn _ _ (by omega)).trans ez
  refine ⟨wldM_t hM k1 (fun k s q1 q2 => ?_) (fun s y => gn _ _ (by omega)) (fun k s q1 q2 => ?_) (fun y => by rw [gn _ _ (by omega)]; exact y) (fun _ => ⟨⟨?_, ?_⟩, fun e he => ?_, fun i hi => ⟨?_, ?_, fun y => ?_, ?_⟩⟩), wcV_q k4 (fun s y => gn _ _ (by omega)) (fun s => vn _ _ (by omega)), wcQ_q k5 pk (fun s y => gn _ _ (by omega)) (fun s => vn _ _ (by omega)) (vn _ _ (by omega)), wcZ_q k6 (fun s y => gn _ _ (by omega)) (fun s y => vn _ _ (by omega)), wcG_q k7 (fun s => gn _ _ (by omega)) (fun s => vn _ _ (by omega)), wcX_q k8 (fun s => gn _ _ (by omega)) (fun s => vn _ _ (by omega)) (vn _ _ (by omega)), wcC_q k9 (fun s y => gn _ _ (by omega)) (vn _ _ (by omega)), wcY_q k10 (fun s y => gn _ _ (by omega)) (fun s y => vn _ _ (by omega)), wcL_q k11 rfl rfl v2⟩
  · rw [g, if_neg (by omega), if_neg (by omega), if_neg (by omega), if_neg (by omega)]
  · rw [v, if_neg (by omega), if_neg (by omega), if_neg (by omega), if_neg (by omega)]
  · rw [v, if_pos ⟨rfl, rfl⟩, g, if_pos ⟨rfl, rfl⟩]
  · rw [v, if_pos ⟨rfl, rfl⟩]
    omega
  · rw [v 101 m, if_pos ⟨rfl, rfl⟩] at he
    by_cases q : e = N
    · subst q
      rw [new]
      refine ⟨⟨?_, by omega, by omega⟩, ?_, fun e' he' y => ?_, fun k hk hkz => ?_⟩
      · rw [g, if_neg (by omega), if_pos ⟨rfl, rfl⟩]
      · rw [g, if_neg (by omega), if_neg (by omega), if_pos ⟨rfl, by omega⟩]
      · rw [v 101 m, if_pos ⟨rfl, rfl⟩] at he'
        refine Decidable.byContradiction fun ne => ?_
        obtain ⟨o1, o2⟩ := old e' (by omega)
        rw [o1] at y
        exact o2 (by rw [y]; rfl)
      · rw [v97] at hkz
        rw [Int.toNat_natCast, v, if_neg (by omega), if_neg (by omega), if_pos ⟨rfl, by omega, by omega⟩, g, if_neg (by omega), if_neg (by omega), if_neg (by omega), if_pos ⟨rfl, by omega, by omega⟩]
        exact congrArg (gI σ 27) (by omega)
    · have he : e < N := by omega
      obtain ⟨o1, o2⟩ := old e he
      obtain ⟨⟨q4, q5, q6⟩, q7, q8, q9⟩ := t2 e (by omega)
      rw [o1]
      refine ⟨⟨?_, q5, q6⟩, ?_, fun e' he' y => ?_, fun k hk hkz => ?_⟩
      · rw [g, if_neg (by omega), if_neg (by omega), if_neg (by omega), if_neg (by omega)]
        exact q4
      · rw [g, if_neg (by omega), if_neg (by omega), if_neg (by omega), if_neg (by omega)]
        exact q7
      · rw [v 101 m, if_pos ⟨rfl, rfl⟩] at he'
        by_cases q' : e' = N
        · subst q'
          rw [new] at y
          exact absurd (show (wg W 103 (16 * m + e)).toNat = c by rw [← y]; rfl) o2
        · rw [(old e' (by omega)).1] at y
          exact q8 e' (by omega) y
      · rw [v97] at hkz
        rw [v, if_neg (by omega), if_neg (by omega), if_neg (by omega), if_neg (by omega), g, if_neg (by omega), if_neg (by omega), if_neg (by omega), if_neg (by omega)]
        exact q9 k hk (by omega)
  · rw [v4 i hi, g7 i hi]
    by_cases q : i = c
    · rw [if_pos q, if_pos q]
    · rw [if_neg q, if_neg q]
      exact (t3 i hi).1
  · rw [v, if_neg (by omega), if_neg (by omega), if_neg (by omega), if_neg (by omega), g7 i hi]
    by_cases q : i = c
    · rw [if_pos q]
      subst q
      have := (t3 i hi).2.1
      rw [hf] at this
      constructor
      · intro y
        exact absurd (this.mp y) (by decide)
      · intro y
        exact absurd y (by decide)
    · rw [if_neg q]
      exact (t3 i hi).2.1
  · rw [g7 i hi] at y
    rw [gn _ _ (by omega)]
    by_cases q : i = c
    · rw [if_pos q] at y
      exact absurd y (by decide)
    · rw [if_neg q] at y
      exact (t3 i hi).2.2.1 y
  · rw [v4 i hi]
    by_cases q : i = c
    · rw [if_pos q]
      exact Or.inr rfl
    · rw [if_neg q]
      exact (t3 i hi).2.2.2
theorem fre_e (hm : m < 8) (hT : wcT σ W m) (k1 : wg W 96 m = 1) : freC σ m = freR W m := by
  unfold freC freR
  obtain ⟨_, _, t3⟩ := hT k1
  refine find_cg fun i hi => ?_
  by_cases q : wg W 104 (32 * m + i) = 0
  · rw [decide_eq_true q, decide_eq_true ((t3 i hi).1.mp q)]
  · rw [decide_eq_false q, decide_eq_false (fun y => q ((t3 i hi).1.mpr y))]
/-- a map that keys are told to, as the rest of the machine has it -/
theorem okm_e (hk : wcK σ W m) (hT : wcT σ W m) (hI : invW W) (hm : m < 8) (hk1 : wg W 96 m = 0 ∨ wg W 96 m = 1) (b7 : 1 ≤ wg W 97 m) (b8 : 1 ≤ wg W 98 m) (b4 : wg W 96 m = 0 → wg W 97 m = 4) : okmC σ m := by
  obtain ⟨c1, c2, c3, c4, c5⟩ := hk
  obtain ⟨⟨i1, i2, i3, i4⟩, _⟩ := hI.1 m hm
  unfold okmC
  rw [← c2, ← c3, ← c4, ← c5]
  refine ⟨hk1, ⟨b7, i1.2⟩, ⟨b8, i2.2⟩, i3, b4, fun y => ?_⟩
  obtain ⟨⟨t1, t0⟩, t2, _⟩ := hT y
  rw [← t1]
  refine ⟨i4, fun e he => ?_⟩
  obtain ⟨⟨q4, q5, q6⟩, _⟩ := t2 e he
  rw [← q4]
  exact ⟨q5, q6⟩
theorem upd_W {f : Int} (h : wldC σ φ W) (hb : bOk σ) (hI : invW W) (hm : m < 8) (o : okmC σ m) : (updC σ m p q f).2 = (updR W m ((rmC σ p (wg W 97 m).toNat).map kpW) ((rmC σ q (wg W 98 m).toNat).map kpW) f).2 ∧ wldC (updC σ m p q f).1 φ (updR W m ((rmC σ p (wg W 97 m).toNat).map kpW) ((rmC σ q (wg W 98 m).toNat).map kpW) f).1 := by
  have pk := hI.2.2.2.1.1.2
  obtain ⟨a1, a2, a3, a4, a5, a6⟩ := h.1.1 m hm
  have a1' := a1
  obtain ⟨c1, c2, c3, c4, c5⟩ := a1'
  have o' := o
  obtain ⟨o1, o2, o3, o4, o5, o6⟩ := o'
  have fe := fin_eC (p := p) hm o a1 a2 hb
  obtain ⟨z7, hz7⟩ : ∃ z : Nat, z = (wg W 97 m).toNat := ⟨_, rfl⟩
  obtain ⟨z8, hz8⟩ : ∃ z : Nat, z = (wg W 98 m).toNat := ⟨_, rfl⟩
  have e97 : wg W 97 m = (z7 : Int) := by omega
  have e98 : wg W 98 m = (z8 : Int) := by omega
  rw [← hz7] at fe
  rw [← hz7, ← hz8]
  unfold updC updR
  by_cases f0 : f < 0 ∨ 2 < f
  · rw [if_pos f0, if_pos f0]
    exact ⟨rfl, h⟩
  · rw [if_neg f0, if_neg f0, fe]
    cases qe : fenC σ m p with
    | some e =>
      have ce : cellC σ m e < 32 := by
        have e16 := fen_16 o qe
        unfold cellC
        split
        · omega
        · rename_i k0
          unfold fenC at qe
          rw [if_neg k0] at qe
          have := List.mem_range.mp (List.mem_of_find?_eq_some qe)
          have := (o6 (by omega)).2 e (by omega)
          omega
      show (if f = 1 then (σ, -17) else (vpC σ m (cellC σ m e) q, 0)).2 = (if f = 1 then (W, -17) else (putR W m (cellC σ m e) ((rmC σ q z8).map kpW), 0)).2 ∧ wldC (if f = 1 then (σ, -17) else (vpC σ m (cellC σ m e) q, 0)).1 φ (if f = 1 then (W, -17) else (putR W m (cellC σ m e) ((rmC σ q z8).map kpW), 0)).1
      by_cases f1 : f = 1
      · rw [if_pos f1, if_pos f1]
        exact ⟨rfl, h⟩
      · rw [if_neg f1, if_neg f1]
        exact ⟨rfl, vp_W h hb hm ce pk (c4.symm.trans e98) e98 (by omega)⟩
    | none =>
      show (if gI σ 30 m = 0 then _ else _ : MS × Int).2 = (if wg W 96 m = 0 then _ else _ : WR × Int).2 ∧ wldC (if gI σ 30 m = 0 then _ else _ : MS × Int).1 φ (if wg W 96 m = 0 then _ else _ : WR × Int).1
      by_cases k0 : gI σ 30 m = 0
      · rw [if_pos k0, if_pos (c2.trans k0)]
        exact ⟨rfl, h⟩
      · have k1 : gI σ 30 m = 1 := by omega
        have k1' := c2.trans k1
        obtain ⟨⟨t1, t0⟩, t2, t3⟩ := a2 k1'
        rw [if_neg k0, if_neg (show ¬ wg W 96 m = 0 by rw [c2]; exact k0)]
        by_cases f2 : f = 2
        · rw [if_pos f2, if_pos f2]
          exact ⟨rfl, h⟩
        · rw [if_neg f2, if_neg f2, t1, c5]
          by_cases fl : gI σ 34 m = gI σ 33 m
          · rw [if_pos fl, if_pos fl]
            exact ⟨rfl, h⟩
          · rw [if_neg fl, if_neg fl, ← fre_e hm a2 k1']
            cases qf : freC σ m with
            | none => exact ⟨rfl, h⟩
            | some c =>
              refine ⟨rfl, ?_⟩
              obtain ⟨c32, cf⟩ := fre_32 qf
              have h34 := (o6 k1).1
              obtain ⟨N, hN⟩ : ∃ N : Nat, N = (gI σ 34 m).toNat := ⟨_, rfl⟩
              have nw := nw_W (p := p) (N := N) h hb hm c32 pk k1' (by omega) (by omega) cf (c3.symm.trans e97) e97 (by omega)
              rw [t1] at nw
              have bn : bOk (nwC σ m p c) := by
                unfold nwC
                refine bOk_w (bOk_w (bOk_w (bOk_c hb (fun _ => rfl)) (fun _ => by decide)) (fun y => absurd (show (3 : Nat) = 1 from y) (by decide))) (fun y => absurd (show (3 : Nat) = 1 from y) (by decide))
              have re : rmC (nwC σ m p c) q z8 = rmC σ q z8 := by
                unfold rmC
                refine List.map_congr_left fun j _ => ?_
                unfold nwC
                rw [gI_sI, if_neg (by omega), gI_sI, if_neg (by omega), gI_sI, if_neg (by omega), cpI_o (by decide)]
              have g32 : gI (nwC σ m p c) 32 m = gI σ 32 m := by
                unfold nwC
                rw [gI_sI, if_neg (by omega), gI_sI, if_neg (by omega), gI_sI, if_neg (by omega), cpI_o (by decide)]
              obtain ⟨V, hV⟩ : ∃ V, V = wset (wset (wsL (wset W 104 (32 * m + c) 1) 102 (256 * m + 16 * (gI σ 34 m).toNat) (((rmC σ p z7).map kpW).take (wg W 97 m).toNat)) 103 (16 * m + (gI σ 34 m).toNat) c) 101 m (gI σ 34 m + 1) := ⟨_, rfl⟩
              have v98 : wg V 98 m = wg W 98 m := by
                rw [hV, wg_wset_o (by decide), wg_wset_o (by decide), wg_wsL_o (by decide), wg_wset_o (by decide)]
              have v105 : wg V 80 105 = wg W 80 105 := by
                rw [hV, wg_wset_o (by decide), wg_wset_o (by decide), wg_wsL_o (by decide), wg_wset_o (by decide)]
              have z := vp_W (q := q) (W := V) (by rw [hV]; exact nw) bn hm c32 (by rw [v105]; exact pk) (g32.trans (c4.symm.trans e98)) (v98.trans e98) (by omega)
              rw [re, hV] at z
              exact z
end CUPW
