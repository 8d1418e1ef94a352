/-! ===== the class's maps from outside: a store that is filled up as a run's; put, remove ===== -/
def cxB (W : WR) (s : Nat) : Int := if s < 772 then kpW (byJ (iL 1048576) (s - 768)) else if s < 776 then kpW (byJ (iL (1048576 + wg W 80 105)) (s - 772)) else if s < 780 then kpW (byJ (iL (wg W 80 105)) (s - 776)) else if s < 784 then kpW (byJ (BitVec.ofInt 64 (wg W 80 106)) (s - 780)) else kpW (byJ (BitVec.ofInt 64 (wg W 80 107)) (s - 784))
/-- the tape stands in the room of stacks, the context is laid, the slot is known -/
def cmpS (σ : MS) (W : WR) : MS := ((fun k s => if k = 27 ∧ 256 ≤ s ∧ s < 768 then gI σ 1 (s - 256) else if k = 27 ∧ 768 ≤ s ∧ s < 788 then cxB W s else if k = 71 ∧ s = 7 then wg W 80 122 else gI σ k s), σ.2)
/-- two stores that differ there only -/
def cqR (A B : MS) : Prop := (∀ k s, ¬ (k = 27 ∧ 256 ≤ s ∧ s < 788) → ¬ (k = 71 ∧ s = 7) → gI A k s = gI B k s) ∧ (∀ i, i < 512 → gI B 27 (256 + i) = gI A 1 i) ∧ A.2 = B.2
/-- what is so of cells outside of runs -/
def W5 (W : WR) : Prop := ∀ t, t < 256 → (wg W 104 t = 0 ∨ wg W 104 t = 1) ∧ wg W 105 t = 0
section CMPL
variable {σ τ ρ A B : MS} {W V : WR} {m n p q e j i c k s z : Nat} {y f : Int} {E : EV} {φ ψ : Nat → Nat}
theorem cq_o (h : ¬ (k = 27 ∧ 256 ≤ s ∧ s < 788)) (h2 : ¬ (k = 71 ∧ s = 7)) : gI (cmpS σ W) k s = gI σ k s := by
  show (if k = 27 ∧ 256 ≤ s ∧ s < 768 then gI σ 1 (s - 256) else if k = 27 ∧ 768 ≤ s ∧ s < 788 then cxB W s else if k = 71 ∧ s = 7 then wg W 80 122 else gI σ k s) = _
  rw [if_neg (by omega), if_neg (by omega), if_neg h2]
theorem cq_t (h : s < 512) : gI (cmpS σ W) 27 (256 + s) = gI σ 1 s := by
  show (if 27 = 27 ∧ 256 ≤ 256 + s ∧ 256 + s < 768 then gI σ 1 (256 + s - 256) else if 27 = 27 ∧ 768 ≤ 256 + s ∧ 256 + s < 788 then cxB W (256 + s) else if 27 = 71 ∧ 256 + s = 7 then wg W 80 122 else gI σ 27 (256 + s)) = _
  rw [if_pos ⟨rfl, by omega, by omega⟩, Nat.add_sub_cancel_left]
theorem cq_x (h : 768 ≤ s ∧ s < 788) : gI (cmpS σ W) 27 s = cxB W s := by
  show (if 27 = 27 ∧ 256 ≤ s ∧ s < 768 then gI σ 1 (s - 256) else if 27 = 27 ∧ 768 ≤ s ∧ s < 788 then cxB W s else if 27 = 71 ∧ s = 7 then wg W 80 122 else gI σ 27 s) = _
  rw [if_neg (by omega), if_pos ⟨rfl, h.1, h.2⟩]
theorem cq_7 : gI (cmpS σ W) 71 7 = wg W 80 122 := by
  show (if 71 = 27 ∧ 256 ≤ 7 ∧ 7 < 768 then gI σ 1 (7 - 256) else if 71 = 27 ∧ 768 ≤ 7 ∧ 7 < 788 then cxB W 7 else if 71 = 71 ∧ 7 = 7 then wg W 80 122 else gI σ 71 7) = _
  rw [if_neg (by omega), if_neg (by omega), if_pos ⟨rfl, rfl⟩]
theorem cq_b (hb : bOk σ) : bOk (cmpS σ W) := fun k s hk => by
  have hk : (kd σ k).1 = 1 := hk
  by_cases c1 : k = 27 ∧ 256 ≤ s ∧ s < 788
  · obtain ⟨rfl, c2, c3⟩ := c1
    by_cases c4 : s < 768
    · obtain ⟨t, rfl⟩ : ∃ t, s = 256 + t := ⟨s - 256, by omega⟩
      rw [cq_t (by omega)]
      exact hb 1 t (by rw [kc_1])
    · rw [cq_x (by omega)]
      unfold cxB
      repeat' split
      all_goals exact w8_in _
  · by_cases c2 : k = 71 ∧ s = 7
    · rw [c2.1, kc_71] at hk
      exact absurd hk (by decide)
    · rw [cq_o c1 c2]
      exact hb k s hk
theorem cq_C (h : wldO σ W) (pk : wg W 80 105 ≤ 256) : wldC (cmpS σ W) (fun _ => 0) W := by
  obtain ⟨hM, h0, k4, k5, ⟨z1, z2, z3⟩, k7, k8, ⟨m1, m2, m3, m4⟩, k11⟩ := h
  refine ⟨wldM_r hM (fun k s z => cq_o (by omega) (by omega)) (fun s z => cq_o (by omega) (by omega)) (fun _ _ _ => rfl), wcV_q k4 (fun s z => cq_o (by omega) (by omega)) (fun _ => rfl), wcQ_q k5 pk (fun s z => cq_o (by omega) (by omega)) (fun _ => rfl) rfl, ⟨?_, ?_, ?_, cq_7.symm, ?_⟩, wcG_q k7 (fun s => cq_o (by omega) (by omega)) (fun _ => rfl), wcX_q k8 (fun s => cq_o (by omega) (by omega)) (fun _ => rfl) rfl, ⟨fun b hb => ?_, fun b hb => ?_, fun b hb => ?_⟩, ⟨fun b hb => ?_, fun b hb => ?_, m3, m4⟩, k11⟩
  · rw [cq_o (by omega) (by omega)]; exact z1
  · rw [cq_o (by omega) (by omega)]; exact z2
  · rw [cq_o (by omega) (by omega)]; exact z3
  · rw [cq_o (by omega) (by omega)]; exact m2
  · rw [cq_x (by omega)]
    unfold cxB
    rw [if_pos (by omega), Nat.add_sub_cancel_left]
  · rw [cq_x (by omega)]
    unfold cxB
    rw [if_neg (by omega), if_pos (by omega), Nat.add_sub_cancel_left]
  · rw [cq_x (by omega)]
    unfold cxB
    rw [if_neg (by omega), if_neg (by omega), if_pos (by omega), Nat.add_sub_cancel_left]
  · rw [cq_x (by omega)]
    unfold cxB
    rw [if_neg (by omega), if_neg (by omega), if_neg (by omega), if_pos (by omega), Nat.add_sub_cancel_left]
  · rw [cq_x (by omega)]
    unfold cxB
    rw [if_neg (by omega), if_neg (by omega), if_neg (by omega), if_neg (by omega), Nat.add_sub_cancel_left]
theorem cq_r : cqR σ (cmpS σ W) := ⟨fun k s h h2 => (cq_o h h2).symm, fun i hi => cq_t hi, rfl⟩
/-- back from there -/
theorem cq_O (h : wldC B φ V) (pk : wg V 80 105 ≤ 256) (r : cqR A B) (h0 : ∀ i, i < 64 → wg V 152 i = 0) (hm : wg V 80 106 = gI A 71 11) : wldO A V := by
  obtain ⟨hM, k4, k5, ⟨z1, z2, z3, z4, z5⟩, k7, k8, k9, k10, k11⟩ := h
  have g := r.1
  have l : ∀ k s, gL A k s = gL B k s := fun k s => by
    unfold gL
    rw [r.2.2]
  refine ⟨wldM_p (wldM_r hM (fun k s z => g _ _ (by omega) (by omega)) (fun s z => g _ _ (by omega) (by omega)) (fun _ _ _ => rfl)) h0, h0, wcV_q k4 (fun s z => g _ _ (by omega) (by omega)) (fun _ => rfl), wcQ_q k5 pk (fun s z => g _ _ (by omega) (by omega)) (fun _ => rfl) rfl, ⟨z1.trans (g _ _ (by omega) (by omega)).symm, z2.trans (g _ _ (by omega) (by omega)).symm, z3.trans (g _ _ (by omega) (by omega)).symm⟩, wcG_q k7 (fun s => g _ _ (by omega) (by omega)) (fun _ => rfl), wcX_q k8 (fun s => g _ _ (by omega) (by omega)) (fun _ => rfl) rfl, ⟨hm, z5.trans (g _ _ (by omega) (by omega)).symm, k10.2.2⟩, wcL_q k11 (l _ _) (l _ _) rfl⟩
/-! keys and values: from the tape, from the room -/
theorem tp_rm (r : cqR A B) (h : p + n ≤ 512) : tpW A 1 p n = rmC B (256 + p) n := by
  unfold tpW rmC
  rw [List.range'_eq_map_range, List.range'_eq_map_range, List.map_map, List.map_map]
  refine List.map_congr_left fun i hi => ?_
  have hi := List.mem_range.mp hi
  show byW (gI A 1 (p + i)) = byW (gI B 27 (256 + p + i))
  rw [← r.2.1 (p + i) (by omega), Nat.add_assoc]
theorem all_c {p q : Nat → Bool} : ∀ (L : List Nat), (∀ x, x ∈ L → p x = q x) → L.all p = L.all q
  | [], _ => rfl
  | a :: t, h => by
    rw [List.all_cons, List.all_cons, h a (List.mem_cons_self ..), all_c t fun x hx => h x (List.mem_cons_of_mem _ hx)]
theorem eq_r (r : cqR A B) (h : n ≤ 512) : eqT A e 0 n = eqC B e 256 n := all_c _ fun i hi => by
  have hi := List.mem_range.mp hi
  rw [r.1 28 _ (by omega) (by omega), Nat.zero_add, ← r.2.1 i (by omega)]
theorem ent_r (r : cqR A B) (h : gI A 31 m ≤ 512) : entT A m 0 = entC B m 256 := by
  unfold entT entC
  rw [r.1 34 m (by omega) (by omega), r.1 31 m (by omega) (by omega)]
  refine congrArg (fun g => List.find? g (List.range (gI B 34 m).toNat)) (funext fun e => ?_)
  rw [r.1 35 _ (by omega) (by omega)]
  exact eq_r r (by rw [← r.1 31 m (by omega) (by omega)]; omega)
theorem fen_r (r : cqR A B) (h : gI A 31 m ≤ 512) : fenT A m 0 = fenC B m 256 := by
  unfold fenT fenC
  rw [tp_rm (p := 0) (n := 4) r (by omega), ent_r r h, r.1 30 m (by omega) (by omega), r.1 33 m (by omega) (by omega)]
theorem cel_r (r : cqR A B) : cellC A m e = cellC B m e := by
  unfold cellC
  rw [r.1 30 m (by omega) (by omega), r.1 35 _ (by omega) (by omega)]
theorem fre_r (r : cqR A B) : freC A m = freC B m := by
  unfold freC
  refine congrArg (fun g => List.find? g (List.range 32)) (funext fun e => ?_)
  rw [r.1 37 _ (by omega) (by omega)]
theorem vp_r (r : cqR A B) (hm : m < 8) (hc : c < 32) (h : gI A 32 m = (z : Int)) (hz : q + z ≤ 512) (z64 : z ≤ 64) : cqR (vpT A m c q) (vpC B m c (256 + q)) := by
  have hB : gI B 32 m = (z : Int) := (r.1 32 m (by omega) (by omega)).symm.trans h
  have ga : ∀ k s, gI (vpT A m c q) k s = if k = 27 ∧ 788 + 64 * (32 * m + c) ≤ s ∧ s < 788 + 64 * (32 * m + c) + z then gI A 1 (s - (788 + 64 * (32 * m + c)) + q) else gI A k s := fun k s => by
    unfold vpT
    rw [h, cpI_p]
  have gb : ∀ k s, gI (vpC B m c (256 + q)) k s = if k = 27 ∧ 788 + 64 * (32 * m + c) ≤ s ∧ s < 788 + 64 * (32 * m + c) + z then gI B 27 (s - (788 + 64 * (32 * m + c)) + (256 + q)) else gI B k s := fun k s => by
    unfold vpC
    rw [hB, cpI_p]
  refine ⟨fun k s h1 h2 => ?_, fun i hi => ?_, r.2.2⟩
  · rw [ga, gb]
    by_cases y : k = 27 ∧ 788 + 64 * (32 * m + c) ≤ s ∧ s < 788 + 64 * (32 * m + c) + z
    · rw [if_pos y, if_pos y, ← r.2.1 _ (by omega), show 256 + (s - (788 + 64 * (32 * m + c)) + q) = s - (788 + 64 * (32 * m + c)) + (256 + q) by omega]
    · rw [if_neg y, if_neg y]
      exact r.1 k s h1 h2
  · rw [ga, gb, if_neg (by omega), if_neg (by omega)]
    exact r.2.1 i hi
theorem nw_r (r : cqR A B) (hm : m < 8) (hc : c < 32) (h : gI A 31 m = (z : Int)) (z16 : z ≤ 16) (hN : gI A 34 m = (n : Int)) : cqR (nwT A m 0 c) (nwC B m 256 c) := by
  have hB : gI B 31 m = (z : Int) := (r.1 31 m (by omega) (by omega)).symm.trans h
  have nB : gI B 34 m = (n : Int) := (r.1 34 m (by omega) (by omega)).symm.trans hN
  have ga : ∀ k s, gI (nwT A m 0 c) k s = if k = 34 ∧ s = m then (n : Int) + 1 else if k = 35 ∧ s = 16 * m + n then (c : Int) else if k = 37 ∧ s = 32 * m + c then 1 else if k = 28 ∧ 16 * (32 * m + c) ≤ s ∧ s < 16 * (32 * m + c) + z then gI A 1 (s - 16 * (32 * m + c) + 0) else gI A k s := fun k s => by
    unfold nwT
    rw [gI_sI, gI_sI, gI_sI, h, hN, cpI_p, Int.toNat_natCast]
  have gb : ∀ k s, gI (nwC B m 256 c) k s = if k = 34 ∧ s = m then (n : Int) + 1 else if k = 35 ∧ s = 16 * m + n then (c : Int) else if k = 37 ∧ s = 32 * m + c then 1 else if k = 28 ∧ 16 * (32 * m + c) ≤ s ∧ s < 16 * (32 * m + c) + z then gI B 27 (s - 16 * (32 * m + c) + 256) else gI B k s := fun k s => by
    unfold nwC
    rw [gI_sI, gI_sI, gI_sI, hB, nB, cpI_p, Int.toNat_natCast]
  refine ⟨fun k s h1 h2 => ?_, fun i hi => ?_, r.2.2⟩
  · rw [ga, gb]
    by_cases y1 : k = 34 ∧ s = m
    · rw [if_pos y1, if_pos y1]
    rw [if_neg y1, if_neg y1]
    by_cases y2 : k = 35 ∧ s = 16 * m + n
    · rw [if_pos y2, if_pos y2]
    rw [if_neg y2, if_neg y2]
    by_cases y3 : k = 37 ∧ s = 32 * m + c
    · rw [if_pos y3, if_pos y3]
    rw [if_neg y3, if_neg y3]
    by_cases y4 : k = 28 ∧ 16 * (32 * m + c) ≤ s ∧ s < 16 * (32 * m + c) + z
    · rw [if_pos y4, if_pos y4, ← r.2.1 _ (by omega), show 256 + (s - 16 * (32 * m + c) + 0) = s - 16 * (32 * m + c) + 256 by omega]
    · rw [if_neg y4, if_neg y4]
      exact r.1 k s h1 h2
  · rw [ga, gb, if_neg (by omega), if_neg (by omega), if_neg (by omega), if_neg (by omega), if_neg (by omega), if_neg (by omega), if_neg (by omega), if_neg (by omega)]
    exact r.2.1 i hi
theorem okm_r (r : cqR A B) (o : okmC A m) : okmC B m := by
  have e : ∀ k s, 28 ≤ k ∧ k ≤ 38 → gI B k s = gI A k s := fun k s h => (r.1 k s (by omega) (by omega)).symm
  obtain ⟨o1, o2, o3, o4, o5, o6⟩ := o
  unfold okmC
  rw [e 30 _ (by omega), e 31 _ (by omega), e 32 _ (by omega), e 33 _ (by omega), e 34 _ (by omega)]
  exact ⟨o1, o2, o3, o4, o5, fun h => ⟨(o6 h).1, fun x hx => by rw [e 35 _ (by omega)]; exact (o6 h).2 x hx⟩⟩
theorem upd_r (r : cqR A B) (hm : m < 8) (o : okmC A m) (hq : q ≤ 16) : (updT A m 0 q f).2 = (updC B m 256 (256 + q) f).2 ∧ cqR (updT A m 0 q f).1 (updC B m 256 (256 + q) f).1 := by
  have o' := o
  obtain ⟨o1, o2, o3, o4, o5, o6⟩ := o'
  obtain ⟨z, hz⟩ : ∃ z : Nat, gI A 32 m = (z : Int) := ⟨(gI A 32 m).toNat, by omega⟩
  obtain ⟨z7, hz7⟩ : ∃ z : Nat, gI A 31 m = (z : Int) := ⟨(gI A 31 m).toNat, by omega⟩
  unfold updT updC
  rw [← fen_r r (by omega), ← fre_r r, ← r.1 30 m (by omega) (by omega), ← r.1 34 m (by omega) (by omega), ← r.1 33 m (by omega) (by omega)]
  by_cases f0 : f < 0 ∨ 2 < f
  · rw [if_pos f0, if_pos f0]
    exact ⟨rfl, r⟩
  rw [if_neg f0, if_neg f0]
  cases qe : fenT A m 0 with
  | some e =>
    dsimp only
    by_cases f1 : f = 1
    · rw [if_pos f1, if_pos f1]
      exact ⟨rfl, r⟩
    · rw [if_neg f1, if_neg f1, ← cel_r r]
      have e16 := fen_16t o qe
      refine ⟨rfl, vp_r r hm ?_ hz (by omega) (by omega)⟩
      unfold cellC
      split
      · omega
      · rename_i k0
        have k1 : gI A 30 m = 1 := by omega
        have h5 := (o6 k1).2 e (by
          unfold fenT at qe
          rw [if_neg k0] at qe
          have := List.mem_range.mp (List.mem_of_find?_eq_some qe)
          omega)
        omega
  | none =>
    dsimp only
    by_cases k0 : gI A 30 m = 0
    · rw [if_pos k0, if_pos k0]
      exact ⟨rfl, r⟩
    rw [if_neg k0, if_neg k0]
    by_cases f2 : f = 2
    · rw [if_pos f2, if_pos f2]
      exact ⟨rfl, r⟩
    rw [if_neg f2, if_neg f2]
    by_cases ff : gI A 34 m = gI A 33 m
    · rw [if_pos ff, if_pos ff]
      exact ⟨rfl, r⟩
    rw [if_neg ff, if_neg ff]
    cases qf : freC A m with
    | none => exact ⟨rfl, r⟩
    | some c =>
      obtain ⟨c32, _⟩ := fre_32 qf
      have n34 := (o6 (by omega)).1
      obtain ⟨n, hn⟩ : ∃ n : Nat, gI A 34 m = (n : Int) := ⟨(gI A 34 m).toNat, by omega⟩
      have g32 : gI (nwT A m 0 c) 32 m = (z : Int) := by
        unfold nwT
        rw [gI_sI, if_neg (by omega), gI_sI, if_neg (by omega), gI_sI, if_neg (by omega), cpI_o (by decide)]
        exact hz
      exact ⟨rfl, vp_r (nw_r r hm c32 hz7 (by omega) hn) hm c32 g32 (by omega) (by omega)⟩
theorem updT_o (h : ¬ (k = 27 ∨ k = 28 ∨ k = 34 ∨ k = 35 ∨ k = 37)) : gI (updT A m p q f).1 k s = gI A k s := by
  have vo : ∀ (X : MS) (c q : Nat), gI (vpT X m c q) k s = gI X k s := fun X c q => by
    unfold vpT
    exact cpI_o (by omega)
  have no : ∀ c, gI (nwT A m p c) k s = gI A k s := fun c => by
    unfold nwT
    rw [gI_sI, if_neg (by omega), gI_sI, if_neg (by omega), gI_sI, if_neg (by omega), cpI_o (by omega)]
  unfold updT
  repeat' split
  all_goals first | rfl | exact vo _ _ _ | exact (vo _ _ _).trans (no _)
theorem updT_2 : (updT A m p q f).1.2 = A.2 := by
  unfold updT
  repeat' split
  all_goals rfl
theorem updT_27 (hm : m < 8) (o : okmC A m) (hs : s < 788 ∨ 17172 ≤ s) : gI (updT A m p q f).1 27 s = gI A 27 s := by
  have o' := o
  obtain ⟨o1, o2, o3, o4, o5, o6⟩ := o'
  have vo : ∀ (X : MS) (c q : Nat), c < 32 → gI X 32 m = gI A 32 m → gI (vpT X m c q) 27 s = gI X 27 s := fun X c q hc e => by
    obtain ⟨z, hz⟩ : ∃ z : Nat, gI A 32 m = (z : Int) := ⟨(gI A 32 m).toNat, by omega⟩
    unfold vpT
    rw [e, hz, cpI_p, if_neg (by omega)]
  have no : ∀ c k, ¬ (k = 34 ∨ k = 35 ∨ k = 37 ∨ k = 28) → ∀ s, gI (nwT A m p c) k s = gI A k s := fun c k h s => by
    unfold nwT
    rw [gI_sI, if_neg (by omega), gI_sI, if_neg (by omega), gI_sI, if_neg (by omega), cpI_o (by omega)]
  unfold updT
  split
  · rfl
  · split
    · rename_i e qe
      split
      · rfl
      · refine vo A _ q ?_ rfl
        have e16 := fen_16t o qe
        unfold cellC
        split
        · omega
        · rename_i k0
          have h5 := (o6 (by omega)).2 e (by
            unfold fenT at qe
            rw [if_neg k0] at qe
            have := List.mem_range.mp (List.mem_of_find?_eq_some qe)
            omega)
          omega
    · split
      · rfl
      · split
        · rfl
        · split
          · rfl
          · split
            · rfl
            · rename_i c qf
              exact (vo _ c q (fre_32 qf).1 (no c 32 (by omega) m)).trans (no c 27 (by omega) s)
theorem upR_o {key val : List Int} (h : ¬ (100 ≤ k ∧ k ≤ 104)) : wg (updR W m key val f).1 k s = wg W k s := by
  have po : ∀ (X : WR) (c : Nat), wg (putR X m c val) k s = wg X k s := fun X c => by
    unfold putR
    exact wg_wsL_o (by omega)
  unfold updR
  repeat' split
  all_goals first | rfl | exact po _ _ | (rw [po, wg_wset_o (by omega), wg_wset_o (by omega), wg_wsL_o (by omega), wg_wset_o (by omega)])
/-- put: the class -/
theorem put_C (h : wldO σ W) (hI : invW W) (hb : bOk σ) (hm : m < 8) (o : okmC σ m) : (updT σ m 0 (gI σ 31 m).toNat f).2 = (updR W m ((tpW σ 1 0 (wg W 97 m).toNat).map kpW) ((tpW σ 1 (wg W 97 m).toNat (wg W 98 m).toNat).map kpW) f).2 ∧ wldO (updT σ m 0 (gI σ 31 m).toNat f).1 (updR W m ((tpW σ 1 0 (wg W 97 m).toNat).map kpW) ((tpW σ 1 (wg W 97 m).toNat (wg W 98 m).toNat).map kpW) f).1 := by
  have pk := hI.2.2.2.1.1.2
  have C := cq_C h pk
  obtain ⟨_, c2, c3, c4, _⟩ := (h.1.1 m hm).1
  have r := cq_r (σ := σ) (W := W)
  obtain ⟨o1, o2, o3, o4, o5, o6⟩ := id o
  have u := upd_W (p := 256) (q := 256 + (gI σ 31 m).toNat) (f := f) C (cq_b hb) hI hm (okm_r r o)
  have v := upd_r (q := (gI σ 31 m).toNat) (f := f) r hm o (by omega)
  have e1 := tp_rm (p := 0) (n := (wg W 97 m).toNat) r (by omega)
  have e2 := tp_rm (p := (wg W 97 m).toNat) (n := (wg W 98 m).toNat) r (by omega)
  have e3 : (wg W 97 m).toNat = (gI σ 31 m).toNat := by rw [c3]
  rw [← e3] at u v ⊢
  have e1 : tpW σ 1 0 (wg W 97 m).toNat = rmC (cmpS σ W) 256 (wg W 97 m).toNat := e1
  rw [e1, e2]
  refine ⟨v.1.trans u.1, cq_O u.2 (by rw [upR_o (by omega)]; exact pk) v.2 (fun i hi => by rw [upR_o (by omega)]; exact h.2.1 i hi) ?_⟩
  rw [upR_o (by omega), updT_o (by omega)]
  exact h.2.2.2.2.2.2.2.1.1
/-! cells that wait are free -/
theorem fre_M (hM : wldM σ φ W) (h0 : ∀ i, i < 64 → wg W 152 i = 0) (g37 : ∀ s, gI τ 37 s = if ¬ gI σ 26 12 = 0 ∧ s < 256 ∧ gI σ 37 s = 2 ∧ gI σ 30 (s / 32) = 1 then 0 else gI σ 37 s) (gn : ∀ k s, ¬ (k = 37 ∨ (k = 26 ∧ s = 12) ∨ (k = 71 ∧ s = 11)) → gI τ k s = gI σ k s) : wldM τ ψ (edW W) := by
  have vn : ∀ k s, ¬ (k = 104 ∨ k = 105) → wg (edW W) k s = wg W k s := fun k s z => by
    show (if k = 104 ∧ s < 256 then _ else if k = 105 ∧ s < 256 then 0 else W.1 k s) = _
    rw [if_neg (by omega), if_neg (by omega)]
  have v4 : ∀ s, s < 256 → wg (edW W) 104 s = if ¬ wg W 105 s = 0 then 0 else wg W 104 s % 2 := fun s hs => by
    show (if 104 = 104 ∧ s < 256 then (if ¬ W.1 105 s = 0 then 0 else W.1 104 s % 2) else _) = _
    rw [if_pos ⟨rfl, hs⟩]
  have v5 : ∀ s, s < 256 → wg (edW W) 105 s = 0 := fun s hs => by
    show (if 105 = 104 ∧ s < 256 then (if ¬ W.1 105 s = 0 then 0 else W.1 104 s % 2) else if 105 = 105 ∧ s < 256 then 0 else W.1 105 s) = 0
    rw [if_neg (by omega), if_pos ⟨rfl, hs⟩]
  have hl : ∀ m, hldR (edW W) m = hldR W m := fun m => hld_e (fun s => vn _ _ (by omega)) (fun s => vn _ _ (by omega))
  refine ⟨fun m hm => ?_, fun i hi z => absurd (h0 i hi) (by rw [vn _ _ (by omega)] at z; exact z), fun i j hi hj z => absurd (h0 i hi) (by rw [vn _ _ (by omega)] at z; exact z)⟩
  obtain ⟨a1, a2, a3, a4, a5, a6⟩ := hM.1 m hm
  obtain ⟨_, c2, _⟩ := a1
  have no37 : ¬ wg W 96 m = 1 → ∀ i, i < 32 → gI τ 37 (32 * m + i) = gI σ 37 (32 * m + i) := fun z i hi => by
    rw [g37, if_neg (fun y => z ?_)]
    have := y.2.2.2
    rw [show (32 * m + i) / 32 = m by omega] at this
    exact c2.trans this
  have n37 : ¬ wg W 96 m = 1 → ∀ s, s / 32 = m → gI τ 37 s = gI σ 37 s := fun z s hs => by
    have := no37 z (s - 32 * m) (by omega)
    rwa [show 32 * m + (s - 32 * m) = s by omega] at this
  refine ⟨wcK_q (hM.1 m hm).1 (fun k z => gn _ _ (by omega)) (fun k z => vn _ _ (by omega)), fun z => ?_, wcP_q a3 (fun k s z => gn _ _ (by omega)) (fun k s z => vn _ _ (by omega)), fun z => ?_, fun z => ?_, fun z => ?_⟩
  · rw [vn _ _ (by omega)] at z
    obtain ⟨⟨u1, u0⟩, u2, u3⟩ := a2 z
    refine ⟨⟨?_, ?_⟩, fun e he => ?_, fun i hi => ?_⟩
    · rw [vn _ _ (by omega), gn _ _ (by omega)]
      exact u1
    · rw [vn _ _ (by omega)]
      exact u0
    · rw [vn _ _ (by omega)] at he
      obtain ⟨⟨q4, q5, q6⟩, q7, q8, q9⟩ := u2 e he
      rw [vn 103 _ (by omega), gn 35 _ (by omega)]
      refine ⟨⟨q4, q5, q6⟩, ?_, fun e' he' y => ?_, fun k hk hz => ?_⟩
      · rw [g37, q7, if_neg (by omega)]
      · rw [vn _ _ (by omega)] at he' y
        exact q8 e' he' y
      · rw [vn _ _ (by omega)] at hz
        rw [vn _ _ (by omega), gn _ _ (by omega)]
        exact q9 k hk hz
    · obtain ⟨x1, x2, x3, x4⟩ := u3 i hi
      rw [v4 _ (by omega), v5 _ (by omega), g37]
      have k30 : gI σ 30 ((32 * m + i) / 32) = 1 := by
        rw [show (32 * m + i) / 32 = m by omega, ← c2]
        exact z
      by_cases y : gI σ 37 (32 * m + i) = 2
      · have l1 := x3 y
        rw [if_pos (x2.mpr y), if_pos ⟨l1, by omega, y, k30⟩]
        exact ⟨Iff.rfl, ⟨fun z => absurd rfl z, fun z => absurd z (by decide)⟩, fun z => absurd z (by decide), Or.inl rfl⟩
      · rw [if_neg (fun z => y (x2.mp z)), if_neg (fun z => y z.2.2.1)]
        refine ⟨⟨fun z => x1.mp (by omega), fun z => by rw [x1.mpr z]; rfl⟩, ⟨fun z => absurd rfl z, fun z => absurd z y⟩, fun z => absurd z y, by omega⟩
  · rw [vn _ _ (by omega)] at z
    have n1 : ¬ wg W 96 m = 1 := by omega
    have := wcR_q (τ := τ) (V := edW W) a4 (fun k s y => by
      by_cases q : k = 37
      · rw [q]
        exact n37 n1 s (by omega)
      · exact gn _ _ (by omega)) (fun _ e b he hb => gn _ _ (by omega)) (fun k s y => vn _ _ (by omega)) (hl m)
    exact this (by rw [vn _ _ (by omega)]; exact z)
  · rw [vn _ _ (by omega)] at z
    have n1 : ¬ wg W 96 m = 1 := by omega
    intro i hi y
    rw [no37 n1 i hi] at y
    obtain ⟨q1, q2⟩ := a5 z i hi y
    refine ⟨q1, ?_⟩
    rcases q2 with ⟨j, j1, j2, _⟩ | ⟨e, e1, e2⟩
    · exact absurd (h0 j j1) j2
    · exact Or.inr ⟨e, by rw [vn _ _ (by omega)]; exact e1, by rw [gn _ _ (by omega)]; exact e2⟩
  · rw [vn _ _ (by omega)] at z
    obtain ⟨⟨q1, q2, q3, q4⟩, q5, q6⟩ := a6 z
    have n1 : ¬ wg W 96 m = 1 := by omega
    refine ⟨⟨by rw [vn _ _ (by omega)]; exact q1, by rw [vn _ _ (by omega)]; exact q2, by rw [vn _ _ (by omega)]; exact q3, by rw [gn _ _ (by omega)]; exact q4⟩, fun i hi => ?_, fun x hx => by rw [vn _ _ (by omega)]; exact q6 x hx⟩
    obtain ⟨y1, y2, y3⟩ := q5 i hi
    refine ⟨?_, v5 _ (by omega), ?_⟩
    · rw [v4 _ (by omega), y1]
      split <;> rfl
    · rw [no37 n1 i hi]
      exact y3
theorem w5_ed (h : W5 W) : edW W = W := by
  refine Prod.ext (funext fun k => funext fun t => ?_) rfl
  show (if k = 104 ∧ t < 256 then (if ¬ W.1 105 t = 0 then 0 else W.1 104 t % 2) else if k = 105 ∧ t < 256 then 0 else W.1 k t) = W.1 k t
  by_cases c1 : k = 104 ∧ t < 256
  · obtain ⟨a, b⟩ := h t c1.2
    have a : W.1 104 t = 0 ∨ W.1 104 t = 1 := a
    have b : W.1 105 t = 0 := b
    rw [if_pos c1, if_neg (fun z => z b), c1.1]
    omega
  · rw [if_neg c1]
    by_cases c2 : k = 105 ∧ t < 256
    · have b : W.1 105 t = 0 := (h t c2.2).2
      rw [if_pos c2, c2.1, b]
    · rw [if_neg c2]
/-- a REMOVE outside of a run -/
theorem w5_rem {key : List Int} (h : W5 W) (hm : m < 8) (h3 : ∀ e : Nat, (e : Int) < wg W 101 m → 0 ≤ wg W 103 (16 * m + e) ∧ wg W 103 (16 * m + e) < 32) : edW (remR W m key 1).1 = (remR W m key 0).1 ∧ (remR W m key 1).2 = (remR W m key 0).2 ∧ W5 (remR W m key 0).1 := by
  unfold remR
  by_cases k0 : wg W 96 m = 0
  · rw [if_pos k0, if_pos k0]
    exact ⟨w5_ed h, rfl, h⟩
  · rw [if_neg k0, if_neg k0]
    cases qe : entR W m key with
    | none => exact ⟨w5_ed h, rfl, h⟩
    | some e =>
      dsimp only
      have el : e < (wg W 101 m).toNat := List.mem_range.mp (List.mem_of_find?_eq_some qe)
      have h5 := h3 e (by omega)
      obtain ⟨c, hc⟩ : ∃ c : Nat, c = 32 * m + (wg W 103 (16 * m + e)).toNat := ⟨_, rfl⟩
      have c256 : c < 256 := by omega
      rw [← hc]
      obtain ⟨N, hN⟩ : ∃ N, N = (wg W 101 m - 1).toNat := ⟨_, rfl⟩
      rw [← hN]
      have v : ∀ (x : Int) (k s : Nat), wg (wmv (wmv (wset (wset (wset W 104 c x) 105 c x) 101 m (wg W 101 m - 1)) 103 (16 * m + e) (16 * m + N) 1) 102 (256 * m + 16 * e) (256 * m + 16 * N) 16) k s = if (k = 104 ∨ k = 105) ∧ s = c then x else wg (wmv (wmv (wset W 101 m (wg W 101 m - 1)) 103 (16 * m + e) (16 * m + N) 1) 102 (256 * m + 16 * e) (256 * m + 16 * N) 16) k s := fun x k s => by
        by_cases k2 : k = 102
        · rw [k2, if_neg (by omega)]
          show (if 102 = 102 ∧ 256 * m + 16 * e ≤ s ∧ s < 256 * m + 16 * N then wg (wmv (wset (wset (wset W 104 c x) 105 c x) 101 m (wg W 101 m - 1)) 103 (16 * m + e) (16 * m + N) 1) 102 (s + 16) else wg (wmv (wset (wset (wset W 104 c x) 105 c x) 101 m (wg W 101 m - 1)) 103 (16 * m + e) (16 * m + N) 1) 102 s) = (if 102 = 102 ∧ 256 * m + 16 * e ≤ s ∧ s < 256 * m + 16 * N then wg (wmv (wset W 101 m (wg W 101 m - 1)) 103 (16 * m + e) (16 * m + N) 1) 102 (s + 16) else wg (wmv (wset W 101 m (wg W 101 m - 1)) 103 (16 * m + e) (16 * m + N) 1) 102 s)
          rw [wg_wmv_o (by decide), wg_wmv_o (by decide), wg_wmv_o (by decide), wg_wmv_o (by decide), wg_wset_o (by decide), wg_wset_o (by decide), wg_wset_o (by decide), wg_wset_o (by decide), wg_wset_o (by decide), wg_wset_o (by decide), wg_wset_o (by decide), wg_wset_o (by decide)]
        · rw [wg_wmv_o k2, wg_wmv_o k2]
          by_cases k3 : k = 103
          · rw [k3, if_neg (by omega)]
            show (if 103 = 103 ∧ 16 * m + e ≤ s ∧ s < 16 * m + N then wg (wset (wset (wset W 104 c x) 105 c x) 101 m (wg W 101 m - 1)) 103 (s + 1) else wg (wset (wset (wset W 104 c x) 105 c x) 101 m (wg W 101 m - 1)) 103 s) = (if 103 = 103 ∧ 16 * m + e ≤ s ∧ s < 16 * m + N then wg (wset W 101 m (wg W 101 m - 1)) 103 (s + 1) else wg (wset W 101 m (wg W 101 m - 1)) 103 s)
            rw [wg_wset_o (by decide), wg_wset_o (by decide), wg_wset_o (by decide), wg_wset_o (by decide), wg_wset_o (by decide), wg_wset_o (by decide), wg_wset_o (by decide), wg_wset_o (by decide)]
          · rw [wg_wmv_o k3, wg_wmv_o k3, wg_wset, wg_wset, wg_wset, wg_wset]
            by_cases k1 : k = 101 ∧ s = m
            · rw [if_pos k1, if_pos k1, if_neg (by omega)]
            · rw [if_neg k1, if_neg k1]
              by_cases k5 : k = 105 ∧ s = c
              · rw [if_pos k5, if_pos ⟨Or.inr k5.1, k5.2⟩]
              · rw [if_neg k5]
                by_cases k4 : k = 104 ∧ s = c
                · rw [if_pos k4, if_pos ⟨Or.inl k4.1, k4.2⟩]
                · rw [if_neg k4, if_neg (by omega)]
      have o4 : ∀ k s, k = 104 ∨ k = 105 → wg (wmv (wmv (wset W 101 m (wg W 101 m - 1)) 103 (16 * m + e) (16 * m + N) 1) 102 (256 * m + 16 * e) (256 * m + 16 * N) 16) k s = wg W k s := fun k s hk => by
        rw [wg_wmv_o (by omega), wg_wmv_o (by omega), wg_wset_o (by omega)]
      refine ⟨Prod.ext (funext fun k => funext fun t => ?_) rfl, rfl, fun t ht => ⟨?_, ?_⟩⟩
      · obtain ⟨X, hX⟩ : ∃ X : Int → WR, X = fun x => wmv (wmv (wset (wset (wset W 104 c x) 105 c x) 101 m (wg W 101 m - 1)) 103 (16 * m + e) (16 * m + N) 1) 102 (256 * m + 16 * e) (256 * m + 16 * N) 16 := ⟨_, rfl⟩
        have v : ∀ (x : Int) (k s : Nat), wg (X x) k s = if (k = 104 ∨ k = 105) ∧ s = c then x else wg (wmv (wmv (wset W 101 m (wg W 101 m - 1)) 103 (16 * m + e) (16 * m + N) 1) 102 (256 * m + 16 * e) (256 * m + 16 * N) 16) k s := fun x k s => by
          rw [hX]
          exact v x k s
        have g1 : (edW (X 1)).1 k t = (X 0).1 k t := by
          show (if k = 104 ∧ t < 256 then (if ¬ wg (X 1) 105 t = 0 then 0 else wg (X 1) 104 t % 2) else if k = 105 ∧ t < 256 then 0 else wg (X 1) k t) = wg (X 0) k t
          by_cases c1 : k = 104 ∧ t < 256
          · obtain ⟨a, b⟩ := h t c1.2
            by_cases y : t = c
            · have e5 : wg (X 1) 105 t = 1 := by rw [v, if_pos ⟨Or.inr rfl, y⟩]
              have e4 : wg (X 0) 104 t = 0 := by rw [v, if_pos ⟨Or.inl rfl, y⟩]
              rw [if_pos c1, c1.1, e5, e4, if_pos (show ¬ (1 : Int) = 0 by decide)]
            · have e5 : wg (X 1) 105 t = 0 := by
                rw [v, if_neg (fun z => y z.2), o4 _ _ (Or.inr rfl)]
                exact b
              have e4 : ∀ x, wg (X x) 104 t = wg W 104 t := fun x => by rw [v, if_neg (fun z => y z.2), o4 _ _ (Or.inl rfl)]
              rw [if_pos c1, c1.1, e5, e4, e4, if_neg (fun z => z rfl)]
              omega
          · rw [if_neg c1]
            by_cases c2 : k = 105 ∧ t < 256
            · obtain ⟨a, b⟩ := h t c2.2
              rw [if_pos c2, c2.1, v 0 105 t, o4 105 t (Or.inr rfl)]
              by_cases y : t = c
              · rw [if_pos ⟨Or.inr rfl, y⟩]
              · rw [if_neg (fun z => y z.2)]
                exact b.symm
            · rw [if_neg c2, v, v, if_neg (by omega), if_neg (by omega)]
        rw [hX] at g1
        exact g1
      · rw [v, o4 104 t (Or.inl rfl)]
        split
        · exact Or.inl rfl
        · exact (h t ht).1
      · rw [v, o4 105 t (Or.inr rfl)]
        split
        · rfl
        · exact (h t ht).2
end CMPL
