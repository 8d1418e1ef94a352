/-! ===== the reference's runs: the rest of the machine, its bounds; LOOKUP, UPDATE, REMOVE ===== -/
def invW (w : WR) : Prop :=
  (∀ m, m < 8 → ((0 ≤ wg w 97 m ∧ wg w 97 m ≤ 16) ∧ (0 ≤ wg w 98 m ∧ wg w 98 m ≤ 64) ∧ (0 ≤ wg w 99 m ∧ wg w 99 m ≤ 16) ∧ (0 ≤ wg w 101 m ∧ wg w 101 m ≤ wg w 99 m)) ∧ (wg w 96 m = 0 → wg w 97 m = 4 ∨ wg w 99 m = 0))
  ∧ (∀ m e : Nat, m < 8 → (e : Int) < wg w 101 m → 0 ≤ wg w 103 (16 * m + e) ∧ wg w 103 (16 * m + e) < 32)
  ∧ (∀ k s, k = 102 ∨ k = 144 ∨ k = 149 → -128 ≤ wg w k s ∧ wg w k s < 128)
  ∧ ((0 ≤ wg w 80 105 ∧ wg w 80 105 ≤ 256) ∧ (0 ≤ wg w 80 113 ∧ wg w 80 113 ≤ 2000) ∧ (0 ≤ wg w 80 110 ∧ wg w 80 110 ≤ 8))
  ∧ (∀ i, i < 64 → ¬ wg w 152 i = 0 → (0 ≤ wg w 151 i ∧ wg w 151 i < 8) ∧ (1 ≤ wg w 150 i ∧ wg w 150 i ≤ 64))
  ∧ (∀ m, m < 8 → 0 ≤ wg w 107 m ∧ wg w 107 m + (hldR w m : Int) ≤ wg w 99 m)
  ∧ (∀ m x : Nat, m < 8 → x < 16 → wg w 106 (16 * m + x) < 8)
/-- a program to go on with was taken -/
def slO (w v : WR) : Prop := (0 ≤ wg v 80 122 ∧ wg v 80 122 < 8) ∧ ¬ wg v 85 (wg v 80 122).toNat = 0 ∧ v.2.2 = w.2.2
/-- the sizes that a judge knows -/
def EC (σ : MS) (E : EV) : Prop := ∀ m, m < 8 → gI σ 97 m = E.2.1 m ∧ gI σ 98 m = E.2.2 m
section RWLD
variable {σ τ ρ υ : MS} {c c' : TC WR} {W V : WR} {w x A a F v : B64} {r f b k n o s m e : Nat} {l key val : List Int} {y nx hh : Int} {E : EV} {S : Nat → Nat → MB} {u : SV}
theorem wld_g (h : wldR σ W) (p : wrT k s) : gI σ k s = wg W k s := (h.1 k s p).symm
theorem wld_I (h : wldR σ W) : wldR (sI σ k s y) (wset W k s y) := by
  refine ⟨fun k' s' p => ?_, h.2.1, h.2.2⟩
  rw [wg_wset, gI_sI]
  by_cases q : k' = k ∧ s' = s
  · rw [if_pos q, if_pos q]
  · rw [if_neg q, if_neg q]
    exact h.1 _ _ p
theorem wld_z (h : wldR σ W) : wldR (wzS σ k s l) (wsL W k s l) := by
  have e2 : (wzS σ k s l).2 = σ.2 := wzS_2 _ _ _
  refine ⟨fun k' s' p => ?_, ?_, ?_⟩
  · rw [wzS_g]
    show (if k' = k ∧ s ≤ s' ∧ s' < s + l.length then l.getD (s' - s) 0 else W.1 k' s') = _
    by_cases q : k' = k ∧ s ≤ s' ∧ s' < s + l.length
    · rw [if_pos q, if_pos q]
    · rw [if_neg q, if_neg q]
      exact h.1 _ _ p
  · show _ = gL _ 80 108
    unfold gL
    rw [e2]
    exact h.2.1
  · show _ = gL _ 80 111
    unfold gL
    rw [e2]
    exact h.2.2
theorem wld_q (h : wldR σ W) (h1 : ∀ k s, wrT k s → gI τ k s = gI σ k s) (h2 : gL τ 80 108 = gL σ 80 108) (h3 : gL τ 80 111 = gL σ 80 111) : wldR τ W := ⟨fun k s p => (h.1 k s p).trans (h1 k s p).symm, h.2.1.trans h2.symm, h.2.2.trans h3.symm⟩
theorem RelR_w (h : RelR σ c) (h1 : gI τ 80 117 = gI σ 80 117) (h2 : ∀ s, gL τ 146 s = gL σ 146 s) (h3 : ∀ s, gI τ 147 s = gI σ 147 s) (h4 : ∀ s, gI τ 148 s = gI σ 148 s) (h5 : wldR τ W) : RelR τ (cP c, cN c, cR c, cS c, cB c, W) := by
  obtain ⟨⟨a1, a2⟩, ⟨b1, b2⟩, d, e, g⟩ := h
  refine ⟨⟨a1, h1.trans a2⟩, ⟨fun f r hf hr => ⟨(b1 f r hf hr).1, fun z => (h2 _).trans ((b1 f r hf hr).2 z)⟩, fun f hf => (h2 _).trans (b2 f hf)⟩, fun f b hf hb => ?_, fun f f1 f2 => (h4 _).trans (e f f1 f2), h5⟩
  rw [h3]
  exact d f b hf hb
theorem RelR_wld (h : RelR σ c) : wldR σ (cW c) := h.2.2.2.2
theorem gL_2 (h : τ.2 = σ.2) (k s : Nat) : gL τ k s = gL σ k s := by
  unfold gL
  rw [h]
theorem mvR_z (h : ∀ s, movK k s) : mvR σ (wzS σ k s l) := ⟨fun k' s' z => by
  rw [wzS_g, if_neg (fun q => z (by rw [q.1]; exact h _))], fun k' s' _ _ => gL_2 (wzS_2 _ _ _) _ _, by rw [wzS_2]⟩
/-! registers before a helper -/
theorem L563 (h : RelR σ c) : MM 563 [mR (some 80), mI hh] σ = RR (lkB tb563) (B563_51, [some (mR (some 80)), some (mI hh), some (mL (gL σ 146 (rpR c 1))), none, some (mL (gL σ 146 (rpR c 2))), none, some (mL (gL σ 146 (rpR c 3))), none, some (mL (gL σ 146 (rpR c 4))), none, none, none, none], [mI (w32 (lI (lShr (gL σ 146 (rpR c 1)) 20) - 8))], σ) := by
  have F4 := (relF h).2
  have t1 : MM 550 [mR (some 80), mI 1] σ = some (some (mI ((rpR c 1 : Nat) : Int)), σ) := T550r h (r := 1) (by decide)
  have t2 : MM 550 [mR (some 80), mI 2] σ = some (some (mI ((rpR c 2 : Nat) : Int)), σ) := T550r h (r := 2) (by decide)
  have t3 : MM 550 [mR (some 80), mI 3] σ = some (some (mI ((rpR c 3 : Nat) : Int)), σ) := T550r h (r := 3) (by decide)
  have t4 : MM 550 [mR (some 80), mI 4] σ = some (some (mI ((rpR c 4 : Nat) : Int)), σ) := T550r h (r := 4) (by decide)
  have bb : ∀ r, r < 11 → 0 ≤ ((rpR c r : Nat) : Int) ∧ ((rpR c r : Nat) : Int) < 44 := fun r hr => by
    show 0 ≤ ((11 * (cN c - 1) + r : Nat) : Int) ∧ ((11 * (cN c - 1) + r : Nat) : Int) < 44
    omega
  have b1 := bb 1 (by decide)
  have b2 := bb 2 (by decide)
  have b3 := bb 3 (by decide)
  have b4 := bb 4 (by decide)
  simp only [M563, e563_0, e563_9, e563_20, e563_32, e563_44, M561, e561_0, Option.getD_some, Option.bind_some, Option.toList_some, Option.toList_none, List.cons_append, List.nil_append, and_self, and_true, true_and, false_and, and_false, ite_self, not_true_eq_false, not_false_eq_true, reduceIte, Nat.reduceEqDiff, ab_I, ab_L, ab_R, ao_I, ao_L, ao_R, gL_sL, gI_sI, gR_sR, gI_sL, gI_sR, gL_sI, gL_sR, gR_sI, gR_sL, t1, t2, t3, t4, g_146, b1.1, b1.2, b2.1, b2.2, b3.1, b3.2, b4.1, b4.2, Int.toNat_natCast]
/-- a map's number -/
theorem mp_R (h : RelR σ c) (hr : r ≤ 10) (mp : isMap (rdR c r)) : ∃ m : Nat, m < 8 ∧ mapT (rdR c r) = (m : Int) ∧ w32 (lI (lShr (gL σ 146 (rpR c r)) 20) - 8) = (m : Int) := by
  have mp' : 8 ≤ (rdR c r).1 ∧ (rdR c r).1 ≤ 15 := mp
  obtain ⟨e1, k1⟩ := rd_R h hr (by omega)
  have z := k1.2.1 mp'.1 mp'.2
  refine ⟨(rdR c r).1 - 8, by omega, by show ((rdR c r).1 : Int) - 8 = _; omega, ?_⟩
  rw [e1]
  show w32 (lI (lShr (enG adR (rdR c r)) 20) - 8) = _
  rw [enG_p (by omega), z]
  have := ad_o (o := (rdR c r).1) (k := 0) (by omega) (by decide)
  have this : lI (lShr (adR (rdR c r).1 + 0#64) 20) = ((rdR c r).1 : Int) := this
  rw [this, w32_i (by omega) (by omega)]
  omega
/-- bytes are taken from where a register leads to -/
theorem tk_R {K : Nat} {L : List B64} (h : RelR σ c) (hr : r ≤ 10) (hK : K = 110 ∧ n ≤ 16 ∨ K = 111 ∧ n ≤ 64) (e : rdL RB c (rdR c r).1 (rdR c r).2.toNat n = some L) : MM 562 [mR (some 80), mL (gL σ 146 (rpR c r)), mI (n : Int), mR (some K)] σ = some (none, wzS σ K 0 (L.map kpW)) ∧ L.length = n := by
  obtain ⟨ob, el⟩ := rdL_R h _ _ _ e
  refine ⟨?_, by rw [el, lsR_n]⟩
  by_cases z : n = 0
  · subst z
    have e : some [] = some L := e
    cases e
    simp only [M562, e562_0, e562_3, show (((0 : Nat) : Int) ≤ 0) by decide, if_true]
    rfl
  · have o0 := ob 0 (by omega)
    have o2 : 2 ≤ (rdR c r).1 := by omega
    obtain ⟨e1, k1⟩ := rd_R h hr (by omega)
    have ea : gL σ 146 (rpR c r) = adR (rdR c r).1 + BitVec.ofNat 64 (rdR c r).2.toNat := by
      rw [e1]
      show enG adR (rdR c r) = _
      rw [enG_p (by omega), BitVec.ofNat_toNat, BitVec.setWidth_eq]
    rw [ea, el]
    exact T562 hK ob
/-- what a call of a helper leaves -/
def hpo (σ : MS) (c : TC WR) (hh nx : Int) (k : Nat) (c' : TC WR) : Prop := ∃ v τ, MM 563 [mR (some 80), mI hh] σ = some (some (mL v), τ) ∧ mvR σ τ ∧ gI τ 80 124 = gI σ 80 124 ∧
  ((k = 0 ∧ gI τ 80 123 = gI σ 80 123 ∧ gI τ 80 122 = gI σ 80 122 ∧ ∃ R S W u, c' = (nx, cN c, upR (nilA R (cN c - 1)) (cN c - 1) 0 u, S, cB c, W) ∧ RelR τ (cP c, cN c, R, S, cB c, W) ∧ v = enR u ∧ okSV u)
  ∨ (k = 2 ∧ cN c = 1 ∧ gI τ 80 123 = 0 ∧ gI τ 80 122 = wg (cW c') 80 122 ∧ RelR τ (st0 (cW c')) ∧ slO (cW c) (cW c')))
theorem hpo_b (t : MM 563 [mR (some 80), mI hh] σ = some (some (mL v), τ)) (mv : mvR σ τ) (h4 : ∀ s, s = 122 ∨ s = 123 ∨ s = 124 → gI τ 80 s = gI σ 80 s) (rel : RelR τ (cP c, cN c, cR c, S, cB c, W)) (ev : v = enR u) (ok : okSV u) (e : bhT c S W u nx = some (k, c')) : hpo σ c hh nx k c' := by
  obtain ⟨ek, ec⟩ := Prod.mk.inj (Option.some.inj e)
  exact ⟨v, τ, t, mv, h4 124 (Or.inr (Or.inr rfl)), Or.inl ⟨ek.symm, h4 123 (Or.inr (Or.inl rfl)), h4 122 (Or.inl rfl), cR c, S, W, u, ec.symm, rel, ev, ok⟩⟩
theorem hpo_d {d : TC WR} (hN : cN d = cN c) (hB : cB d = cB c) (t : MM 563 [mR (some 80), mI hh] σ = some (some (mL v), τ)) (mv : mvR σ τ) (h4 : ∀ s, s = 122 ∨ s = 123 ∨ s = 124 → gI τ 80 s = gI σ 80 s) (rel : RelR τ (cP c, cN c, cR d, S, cB c, W)) (ev : v = enR u) (ok : okSV u) (e : bhT d S W u nx = some (k, c')) : hpo σ c hh nx k c' := by
  obtain ⟨ek, ec⟩ := Prod.mk.inj (Option.some.inj e)
  rw [hN, hB] at ec
  exact ⟨v, τ, t, mv, h4 124 (Or.inr (Or.inr rfl)), Or.inl ⟨ek.symm, h4 123 (Or.inr (Or.inl rfl)), h4 122 (Or.inl rfl), cR d, S, W, u, ec.symm, rel, ev, ok⟩⟩
/-- less is said where a record ended -/
theorem RelR_k (h : RelR τ c) (o : Nat) : RelR τ (kilT c o) := by
  obtain ⟨a, ⟨b1, b2⟩, d, e, g⟩ := h
  refine ⟨a, ⟨fun f r hf hr => ?_, b2⟩, fun f b hf hb => ?_, e, g⟩
  · show vlR τ (11 * f + r) (if (cR c f r).1 = o then nilR else cR c f r)
    split
    · exact ⟨okSV_n, fun z => absurd (show nilR.1 = 6 from rfl) z⟩
    · exact b1 f r hf hr
  · show mbR _ (if 2 ≤ (cS c f b).1 ∧ (cS c f b).2.1 = o then (0, 0, 0#64) else cS c f b)
    split
    · exact ⟨fun z => absurd z (show ¬ (0 : Nat) = 1 by decide), fun z => absurd z (show ¬ 2 ≤ (0 : Nat) by decide)⟩
    · exact d f b hf hb
/-! keys -/
theorem kp_w8 (z : B64) : w8 (kpW z) = kpW z := w8w8 _
theorem mapg {L : List B64} {i : Nat} (hi : i < L.length) : w8 ((L.map kpW).getD i 0) = (L.map kpW).getD i 0 := by
  rw [List.getD_eq_getElem?_getD, List.getElem?_map]
  rw [List.getElem?_eq_getElem hi]
  exact kp_w8 _
theorem lsB_e (hl : key.length = n) (hk : ∀ i, i < n → gI σ k i = key.getD i 0) (h8 : ∀ i, i < n → w8 (key.getD i 0) = key.getD i 0) : lsB σ k n = key := by
  unfold lsB
  refine List.ext_getElem (by rw [List.length_map, List.length_range, hl]) fun i h1 h2 => ?_
  rw [List.getElem_map, List.getElem_range]
  have hi : i < n := by rw [← hl]; exact h2
  rw [hk i hi, h8 i hi, List.getD_eq_getElem?_getD, List.getElem?_eq_getElem h2]
  rfl
theorem et_W (h : wldR σ W) (hm : m < 8) (hI : invW W) (hk : ∀ i, i < (wg W 97 m).toNat → gI σ 110 i = key.getD i 0) : etS σ m = entR W m key := by
  have e1 := wld_g h (k := 101) (s := m) (by omega)
  have e7 := wld_g h (k := 97) (s := m) (by omega)
  unfold etS entR
  rw [e1, e7]
  refine congrArg (fun p => List.find? p _) ?_
  funext e
  unfold enS
  rw [Bool.eq_iff_iff, List.all_eq_true, List.all_eq_true]
  refine forall_congr' fun i => forall_congr' fun hi => ?_
  have hi := List.mem_range.mp hi
  rw [hk i hi, wld_g h (k := 102) (by omega)]
theorem id_W (h4 : wg W 97 m = 4) (hk : ∀ i, i < (wg W 97 m).toNat → gI σ 110 i = key.getD i 0) : idS σ = idxR key := by
  rw [h4] at hk
  unfold idS idxR
  rw [hk 0 (by decide), hk 1 (by decide), hk 2 (by decide), hk 3 (by decide)]
theorem fin_32 (hm : m < 8) (hI : invW W) {j : Nat} (h : finR W m key = some j) : j < 32 := by
  obtain ⟨i1, i2, _⟩ := hI
  have b := (i1 m hm).1
  unfold finR at h
  split at h
  · split at h
    · cases h
      omega
    · cases h
  · obtain ⟨e, he, ej⟩ := Option.map_eq_some_iff.mp h
    have le := List.mem_range.mp (List.mem_of_find?_eq_some he)
    have := i2 m e hm (by omega)
    omega
theorem fn_W (h : wldR σ W) (hm : m < 8) (hI : invW W) (hk : ∀ i, i < (wg W 97 m).toNat → gI σ 110 i = key.getD i 0) : fnS σ m = ioN (finR W m key) := by
  have et := et_W h hm hI hk
  have e6 := wld_g h (k := 96) (s := m) (by omega)
  have e9 := wld_g h (k := 99) (s := m) (by omega)
  have i1 := hI.1 m hm
  have i2 := hI.2.1
  unfold fnS finR
  rw [e6, e9, et]
  by_cases k0 : wg W 96 m = 0
  · rw [if_pos k0, if_pos k0]
    rcases i1.2 k0 with h4 | h0
    · rw [id_W h4 hk]
      by_cases q : (idxR key : Int) < wg W 99 m
      · rw [if_pos q, if_pos q]
        rfl
      · rw [if_neg q, if_neg q]
        rfl
    · rw [if_neg (by omega), if_neg (by omega)]
      rfl
  · rw [if_neg k0, if_neg k0]
    cases q : entR W m key with
    | none => rfl
    | some e =>
      have le := List.mem_range.mp (List.mem_of_find?_eq_some q)
      have := i2 m e hm (by omega)
      show gI σ 103 (16 * m + e) = ((wg W 103 (16 * m + e)).toNat : Int)
      rw [wld_g h (k := 103) (by omega)]
      omega
/-- a key was taken -/
theorem key_W {L : List B64} (h : RelR σ c) (hn : L.length ≤ n) (K : Nat) (hK : K = 110 ∨ K = 111) : RelR (wzS σ K 0 (L.map kpW)) c ∧ (∀ i, i < L.length → gI (wzS σ K 0 (L.map kpW)) K i = (L.map kpW).getD i 0) ∧ mvR σ (wzS σ K 0 (L.map kpW)) ∧ (∀ k s, ¬ k = K → gI (wzS σ K 0 (L.map kpW)) k s = gI σ k s) := by
  have g : ∀ k s, ¬ k = K → gI (wzS σ K 0 (L.map kpW)) k s = gI σ k s := fun k s z => by rw [wzS_g, if_neg (fun q => z q.1)]
  have l := gL_2 (wzS_2 (k := K) (L.map kpW) 0 σ)
  refine ⟨RelR_q (g _ _ (by omega)) (fun s => l _ _) (fun s => g _ _ (by omega)) (fun s => g _ _ (by omega)) (fun k s p => g _ _ (by omega)) (l _ _) (l _ _) h, fun i hi => ?_, mvR_z (fun s => by omega), g⟩
  rw [wzS_g, if_pos ⟨rfl, by omega, by rw [List.length_map]; omega⟩, Nat.sub_zero]
/-! LOOKUP -/
theorem hp_1 (h : RelR σ c) (hI : invW (cW c)) (hE : EC σ E) (e : hpT RB RH E c 1 nx = some (k, c')) : hpo σ c 1 nx k c' := by
  unfold hpT at e
  rw [if_pos (Or.inl rfl)] at e
  by_cases mp : isMap (rdR c 1)
  · rw [if_neg (not_not_intro mp)] at e
    obtain ⟨m, hm, em, e0⟩ := mp_R h (r := 1) (by decide) mp
    rw [em, Int.toNat_natCast] at e
    have g7 : gI σ 97 m = wg (cW c) 97 m := wld_g (RelR_wld h) (by omega)
    have i1 := (hI.1 m hm).1
    obtain ⟨N, hN⟩ : ∃ N : Nat, N = (wg (cW c) 97 m).toNat := ⟨_, rfl⟩
    have eN : gI σ 97 m = (N : Int) := by omega
    have eE : (E.2.1 m).toNat = N := by rw [← (hE m hm).1]; omega
    rw [eE] at e
    cases ek : rdL RB c (rdR c 2).1 (rdR c 2).2.toNat N with
    | none =>
      rw [ek] at e
      cases e
    | some L =>
      rw [ek] at e
      dsimp only at e
      rw [if_pos rfl] at e
      obtain ⟨t5, ln⟩ := tk_R h (r := 2) (K := 110) (by decide) (Or.inl ⟨rfl, by omega⟩) ek
      obtain ⟨ru, ku, mu, gu⟩ := key_W (L := L) (n := N) h (by omega) 110 (Or.inl rfl)
      obtain ⟨υ, hυ⟩ : ∃ υ, υ = wzS σ 110 0 (L.map kpW) := ⟨_, rfl⟩
      rw [← hυ] at t5 ru ku mu gu
      have b0 : 0 ≤ (m : Int) ∧ (m : Int) < 8 := by omega
      have wu := RelR_wld ru
      have u7 := wld_g wu (k := 97) (s := m) (by omega)
      have u1 := wld_g wu (k := 101) (s := m) (by omega)
      have u9 := wld_g wu (k := 99) (s := m) (by omega)
      have t6 := T410 (σ := υ) hm (by omega) (by omega) (by omega)
      rw [fn_W (key := L.map kpW) wu hm hI (fun i hi => ku i (by omega))] at t6
      have h4 : ∀ s, s = 122 ∨ s = 123 ∨ s = 124 → gI υ 80 s = gI σ 80 s := fun s _ => gu _ _ (by omega)
      have t0 : MM 563 [mR (some 80), mI 1] σ = RR (lkB tb563) (B563_167, [some (mR (some 80)), some (mI 1), some (mL (gL σ 146 (rpR c 1))), none, some (mL (gL σ 146 (rpR c 2))), none, some (mL (gL σ 146 (rpR c 3))), none, some (mL (gL σ 146 (rpR c 4))), none, some (mI (m : Int)), none, none], [mI (ioN (finR (cW c) m (L.map kpW)))], υ) := by
        rw [L563 h, e0, e563_51]
        simp only [Option.getD_some, Option.bind_some, Option.toList_some, Option.toList_none, List.cons_append, List.nil_append, and_self, and_true, true_and, false_and, and_false, ite_self, not_true_eq_false, not_false_eq_true, reduceIte, Nat.reduceEqDiff, ab_I, ab_L, ab_R, ao_I, ao_L, ao_R, gL_sL, gI_sI, gR_sR, gI_sL, gI_sR, gL_sI, gL_sR, gR_sI, gR_sL, Int.reduceEq, if_true, if_false, g_97, b0.1, b0.2, Int.toNat_natCast, eN, t5, e563_161, t6]
      have fe : RH.2.2.1 (cW c) (m : Int) L = (finR (cW c) m (L.map kpW)).filter fun j => decide (j < 32) := rfl
      rw [fe] at e
      cases q : finR (cW c) m (L.map kpW) with
      | none =>
        rw [q] at e t0
        have e : bhT c (cS c) (cW c) (0, 0#64) nx = some (k, c') := e
        have t0 : _ = RR (lkB tb563) (B563_167, [some (mR (some 80)), some (mI 1), some (mL (gL σ 146 (rpR c 1))), none, some (mL (gL σ 146 (rpR c 2))), none, some (mL (gL σ 146 (rpR c 3))), none, some (mL (gL σ 146 (rpR c 4))), none, some (mI (m : Int)), none, none], [mI (-1)], υ) := t0
        refine hpo_b (v := 0#64) (τ := υ) ?_ mu h4 ru enG_0.symm okSV_0 e
        rw [t0, e563_167]
        simp only [show ¬ (0 : Int) ≤ -1 by decide, if_false, e563_193]
      | some j =>
        have j32 := fin_32 hm hI q
        rw [q] at e t0
        have e : (match (some j : Option Nat).filter fun j => decide (j < 32) with
          | none => bhT c (cS c) (cW c) (0, 0#64) nx
          | some j => bhT c (cS c) (cW c) (16 + 32 * m + j, 0#64) nx) = some (k, c') := e
        rw [Option.filter_some, if_pos (decide_eq_true j32)] at e
        have e : bhT c (cS c) (cW c) (16 + 32 * m + j, 0#64) nx = some (k, c') := e
        have t0 : _ = RR (lkB tb563) (B563_167, [some (mR (some 80)), some (mI 1), some (mL (gL σ 146 (rpR c 1))), none, some (mL (gL σ 146 (rpR c 2))), none, some (mL (gL σ 146 (rpR c 3))), none, some (mL (gL σ 146 (rpR c 4))), none, some (mI (m : Int)), none, none], [mI (j : Int)], υ) := t0
        have ea : iL (1048576 * (16 + 32 * (m : Int) + (j : Int)) + 524288 + 0) = enR (16 + 32 * m + j, 0#64) := by
          show _ = enG adR (16 + 32 * m + j, 0#64)
          rw [enG_n (show ¬ 16 + 32 * m + j = 0 by omega), show (0#64 : B64) = BitVec.ofNat 64 0 from rfl, ad_i]
          exact congrArg iL (by omega)
        have j0 : 0 ≤ (j : Int) := by omega
        have ok : okSV (16 + 32 * m + j, 0#64) := okSV_p (Or.inr (Or.inl (by omega)))
        have ww : w32 (w32 (16 + w32 (32 * (m : Int))) + (j : Int)) = 16 + 32 * (m : Int) + (j : Int) := by
          rw [w32_i (x := 32 * (m : Int)) (by omega) (by omega), w32_i (x := 16 + 32 * (m : Int)) (by omega) (by omega), w32_i (by omega) (by omega)]
        refine hpo_b (v := enR (16 + 32 * m + j, 0#64)) (τ := υ) ?_ mu h4 ru rfl ok e
        rw [t0, e563_167]
        simp only [Option.getD_some, Option.bind_some, Option.toList_some, Option.toList_none, List.cons_append, List.nil_append, and_self, and_true, true_and, false_and, and_false, ite_self, not_true_eq_false, not_false_eq_true, reduceIte, Nat.reduceEqDiff, ab_I, ab_L, ab_R, ao_I, ao_L, ao_R, gL_sL, gI_sI, gR_sR, gI_sL, gI_sR, gL_sI, gL_sR, gR_sI, gR_sL, j0, if_true, ww, T549, e563_193, ea]
  · rw [if_pos mp] at e
    cases e
/-! REMOVE -/
theorem rem_W (h : wldR σ W) (hm : m < 8) (hI : invW W) (hk : ∀ i, i < (wg W 97 m).toNat → gI σ 110 i = key.getD i 0) (h54 : gI σ 80 54 = 1) : ∃ τ, MM 412 [mR (some 80), mI (m : Int)] σ = some (some (mI (remR W m key 1).2), τ) ∧ wldR τ (remR W m key 1).1 ∧ τ.2 = σ.2 ∧ ∀ k s, ¬ (101 ≤ k ∧ k ≤ 105) → gI τ k s = gI σ k s := by
  have i1 := hI.1 m hm
  have u7 := wld_g h (k := 97) (s := m) (by omega)
  have u1 := wld_g h (k := 101) (s := m) (by omega)
  have u6 := wld_g h (k := 96) (s := m) (by omega)
  obtain ⟨τ, t1, t2, t3⟩ := T412 (σ := σ) hm (by omega) (by omega) (fun e he => by
    rw [wld_g h (k := 103) (by omega)]
    exact hI.2.1 m e hm (by omega))
  have et := et_W h hm hI hk
  rw [u6, et] at t1
  rw [u6] at t2
  rw [u6, et] at t3
  refine ⟨τ, ?_, ?_⟩
  · rw [t1]
    unfold remR
    by_cases k0 : wg W 96 m = 0
    · rw [if_pos k0, if_pos k0]
    · rw [if_neg k0, if_neg k0]
      cases entR W m key with
      | none => rfl
      | some e => rfl
  · unfold remR
    by_cases k0 : wg W 96 m = 0
    · rw [if_pos k0]
      rw [t2 k0]
      exact ⟨h, rfl, fun _ _ _ => rfl⟩
    · rw [if_neg k0]
      have t3 := t3 k0
      cases q : entR W m key with
      | none =>
        rw [q] at t3
        have t3 : τ = σ := t3
        rw [t3]
        exact ⟨h, rfl, fun _ _ _ => rfl⟩
      | some e =>
        rw [q] at t3
        obtain ⟨p2, p1⟩ : τ.2 = σ.2 ∧ ∀ k s, gI τ k s = if k = 102 ∧ 256 * m + 16 * e ≤ s ∧ s < 256 * m + 16 * (gI σ 101 m - 1).toNat then w8 (gI σ 102 (s + 16)) else if k = 103 ∧ 16 * m + e ≤ s ∧ s < 16 * m + (gI σ 101 m - 1).toNat then gI σ 103 (s + 1) else gI (rm1 σ m e) k s := t3
        have u3 := wld_g h (k := 103) (s := 16 * m + e) (by omega)
        have er : rm1 σ m e = sI (sI (sI σ 104 (32 * m + (wg W 103 (16 * m + e)).toNat) 1) 105 (32 * m + (wg W 103 (16 * m + e)).toNat) 1) 101 m (wg W 101 m - 1) := by
          unfold rm1
          rw [u3, u1, h54]
          rfl
        have wr : wldR (rm1 σ m e) (wset (wset (wset W 104 (32 * m + (wg W 103 (16 * m + e)).toNat) 1) 105 (32 * m + (wg W 103 (16 * m + e)).toNat) 1) 101 m (wg W 101 m - 1)) := by
          rw [er]
          exact wld_I (wld_I (wld_I h))
        refine ⟨⟨fun k s p => ?_, ?_, ?_⟩, p2, fun k s z => ?_⟩
        · rw [p1, u1]
          show (if k = 102 ∧ 256 * m + 16 * e ≤ s ∧ s < 256 * m + 16 * (wg W 101 m - 1).toNat then (if 102 = 103 ∧ 16 * m + e ≤ s + 16 ∧ s + 16 < 16 * m + (wg W 101 m - 1).toNat then wg (wset (wset (wset W 104 (32 * m + (wg W 103 (16 * m + e)).toNat) 1) 105 (32 * m + (wg W 103 (16 * m + e)).toNat) 1) 101 m (wg W 101 m - 1)) 103 (s + 16 + 1) else wg (wset (wset (wset W 104 (32 * m + (wg W 103 (16 * m + e)).toNat) 1) 105 (32 * m + (wg W 103 (16 * m + e)).toNat) 1) 101 m (wg W 101 m - 1)) 102 (s + 16)) else (if k = 103 ∧ 16 * m + e ≤ s ∧ s < 16 * m + (wg W 101 m - 1).toNat then wg (wset (wset (wset W 104 (32 * m + (wg W 103 (16 * m + e)).toNat) 1) 105 (32 * m + (wg W 103 (16 * m + e)).toNat) 1) 101 m (wg W 101 m - 1)) 103 (s + 1) else wg (wset (wset (wset W 104 (32 * m + (wg W 103 (16 * m + e)).toNat) 1) 105 (32 * m + (wg W 103 (16 * m + e)).toNat) 1) 101 m (wg W 101 m - 1)) k s)) = _
          by_cases q1 : k = 102 ∧ 256 * m + 16 * e ≤ s ∧ s < 256 * m + 16 * (wg W 101 m - 1).toNat
          · rw [if_pos q1, if_pos q1, if_neg (by omega), wld_g h (k := 102) (by omega)]
            have := hI.2.2.1 102 (s + 16) (Or.inl rfl)
            rw [w8_i this.1 this.2, wg_wset_o (by decide), wg_wset_o (by decide), wg_wset_o (by decide)]
          · rw [if_neg q1, if_neg q1]
            by_cases q2 : k = 103 ∧ 16 * m + e ≤ s ∧ s < 16 * m + (wg W 101 m - 1).toNat
            · rw [if_pos q2, if_pos q2, wld_g h (k := 103) (by omega), wg_wset_o (by decide), wg_wset_o (by decide), wg_wset_o (by decide)]
            · rw [if_neg q2, if_neg q2]
              exact wr.1 k s p
        · show W.2.1 = gL τ 80 108
          rw [gL_2 p2]
          exact h.2.1
        · show W.2.2 = gL τ 80 111
          rw [gL_2 p2]
          exact h.2.2
        · rw [p1, if_neg (by omega), if_neg (by omega), er, gI_sI, if_neg (by omega), gI_sI, if_neg (by omega), gI_sI, if_neg (by omega)]
theorem hp_3 (h : RelR σ c) (hI : invW (cW c)) (hE : EC σ E) (h54 : gI σ 80 54 = 1) (e : hpT RB RH E c 3 nx = some (k, c')) : hpo σ c 3 nx k c' := by
  unfold hpT at e
  rw [if_pos (Or.inr (Or.inr rfl))] at e
  by_cases mp : isMap (rdR c 1)
  · rw [if_neg (not_not_intro mp)] at e
    obtain ⟨m, hm, em, e0⟩ := mp_R h (r := 1) (by decide) mp
    rw [em, Int.toNat_natCast] at e
    have g7 : gI σ 97 m = wg (cW c) 97 m := wld_g (RelR_wld h) (by omega)
    have i1 := (hI.1 m hm).1
    obtain ⟨N, hN⟩ : ∃ N : Nat, N = (wg (cW c) 97 m).toNat := ⟨_, rfl⟩
    have eN : gI σ 97 m = (N : Int) := by omega
    have eE : (E.2.1 m).toNat = N := by rw [← (hE m hm).1]; omega
    rw [eE] at e
    cases ek : rdL RB c (rdR c 2).1 (rdR c 2).2.toNat N with
    | none =>
      rw [ek] at e
      cases e
    | some L =>
      rw [ek] at e
      dsimp only at e
      rw [if_neg (show ¬ (3 : Int) = 1 by decide), if_pos rfl] at e
      obtain ⟨t5, ln⟩ := tk_R h (r := 2) (K := 110) (by decide) (Or.inl ⟨rfl, by omega⟩) ek
      obtain ⟨ru, ku, mu, gu⟩ := key_W (L := L) (n := N) h (by omega) 110 (Or.inl rfl)
      obtain ⟨υ, hυ⟩ : ∃ υ, υ = wzS σ 110 0 (L.map kpW) := ⟨_, rfl⟩
      rw [← hυ] at t5 ru ku mu gu
      have b0 : 0 ≤ (m : Int) ∧ (m : Int) < 8 := by omega
      obtain ⟨τ, t6, wt, p2, gt⟩ := rem_W (σ := υ) (key := L.map kpW) (RelR_wld ru) hm hI (fun i hi => ku i (by omega)) ((gu _ _ (by omega)).trans h54)
      have lt := gL_2 p2
      have e : bhT c (cS c) (remR (cW c) m (L.map kpW) 1).1 (0, BitVec.ofInt 64 (remR (cW c) m (L.map kpW) 1).2) nx = some (k, c') := e
      refine hpo_b (v := iL (remR (cW c) m (L.map kpW) 1).2) (τ := τ) ?_ (mvR_t mu ⟨fun k s z => gt k s (by omega), fun k s _ _ => lt k s, by rw [p2]⟩) (fun s z => (gt _ _ (by omega)).trans (gu _ _ (by omega))) (RelR_w ru (gt _ _ (by omega)) (fun s => lt _ _) (fun s => gt _ _ (by omega)) (fun s => gt _ _ (by omega)) wt) enG_0.symm okSV_0 e
      rw [L563 h, e0, e563_51]
      simp only [Option.getD_some, Option.bind_some, Option.toList_some, Option.toList_none, List.cons_append, List.nil_append, and_self, and_true, true_and, false_and, and_false, ite_self, not_true_eq_false, not_false_eq_true, reduceIte, Nat.reduceEqDiff, ab_I, ab_L, ab_R, ao_I, ao_L, ao_R, gL_sL, gI_sI, gR_sR, gI_sL, gI_sR, gL_sI, gL_sR, gR_sI, gR_sL, Int.reduceEq, if_true, if_false, g_97, b0.1, b0.2, Int.toNat_natCast, eN, t5, e563_255, t6, e563_261]
  · rw [if_pos mp] at e
    cases e
/-! UPDATE -/
theorem fr_W (h : wldR σ W) : frS σ m = freR W m := by
  unfold frS freR
  refine congrArg (fun p => List.find? p _) ?_
  funext e
  rw [wld_g h (k := 104) (by omega)]
theorem pu_W (h : wldR σ W) (hm : m < 8) (hl : val.length = (wg W 98 m).toNat) (hk : ∀ i, i < val.length → gI σ 111 i = val.getD i 0) (h8 : ∀ i, i < val.length → w8 (val.getD i 0) = val.getD i 0) : wldR (puS σ m e) (putR W m e val) := by
  unfold puS putR
  rw [wld_g h (k := 98) (by omega), ← hl, lsB_e rfl hk h8, List.take_length]
  exact wld_z h
theorem ne_W (h : wldR σ W) (hm : m < 8) (hl : key.length = (wg W 97 m).toNat) (hk : ∀ i, i < key.length → gI σ 110 i = key.getD i 0) (h8 : ∀ i, i < key.length → w8 (key.getD i 0) = key.getD i 0) : wldR (neS σ m e) (wset (wset (wsL (wset W 104 (32 * m + e) 1) 102 (256 * m + 16 * (wg W 101 m).toNat) (key.take (wg W 97 m).toNat)) 103 (16 * m + (wg W 101 m).toNat) e) 101 m (wg W 101 m + 1)) := by
  unfold neS
  rw [wld_g h (k := 97) (by omega), wld_g h (k := 101) (by omega), ← hl, lsB_e rfl hk h8, List.take_length]
  exact wld_I (wld_I (wld_z (wld_I h)))
theorem neS_o (h : ¬ (101 ≤ k ∧ k ≤ 104)) : gI (neS σ m e) k s = gI σ k s := by
  unfold neS
  rw [gI_sI, if_neg (by omega), gI_sI, if_neg (by omega), wzS_g, if_neg (by omega), gI_sI, if_neg (by omega)]
theorem neS_2 : (neS σ m e).2 = σ.2 := by
  unfold neS
  show (wzS _ _ _ _).2 = _
  rw [wzS_2]
  rfl
theorem upM_o (h : ¬ (100 ≤ k ∧ k ≤ 104)) : gI (upM σ m x).1 k s = gI σ k s := by
  have pu : ∀ (ρ : MS) (c : Nat), gI (puS ρ m c) k s = gI ρ k s := fun ρ c => by
    unfold puS
    rw [wzS_g, if_neg (by omega)]
  unfold upM
  repeat' split
  · rfl
  · rfl
  · exact pu _ _
  · rfl
  · rfl
  · rfl
  · rfl
  · exact (pu _ _).trans (neS_o (by omega))
theorem upM_2 : (upM σ m x).1.2 = σ.2 := by
  unfold upM
  repeat' split
  all_goals first | rfl | exact wzS_2 _ _ _ | exact (wzS_2 _ _ _).trans neS_2
theorem up_W (h : wldR σ W) (hm : m < 8) (hI : invW W) (kl : key.length = (wg W 97 m).toNat) (hk : ∀ i, i < key.length → gI σ 110 i = key.getD i 0) (k8 : ∀ i, i < key.length → w8 (key.getD i 0) = key.getD i 0) (vl : val.length = (wg W 98 m).toNat) (hv : ∀ i, i < val.length → gI σ 111 i = val.getD i 0) (v8 : ∀ i, i < val.length → w8 (val.getD i 0) = val.getD i 0) : wldR (upM σ m x).1 (updR W m key val x.toInt).1 ∧ (upM σ m x).2 = (updR W m key val x.toInt).2 := by
  have f := fn_W h hm hI (fun i hi => hk i (by omega))
  unfold upM updR
  by_cases c1 : x.toInt < 0 ∨ 2 < x.toInt
  · rw [if_pos c1, if_pos c1]
    exact ⟨h, rfl⟩
  · rw [if_neg c1, if_neg c1]
    cases q : finR W m key with
    | some j =>
      rw [q] at f
      have f : fnS σ m = (j : Int) := f
      rw [if_pos (by omega)]
      dsimp only
      by_cases c2 : x.toInt = 1
      · rw [if_pos c2, if_pos c2]
        exact ⟨h, rfl⟩
      · rw [if_neg c2, if_neg c2, f, Int.toNat_natCast]
        exact ⟨pu_W h hm vl hv v8, rfl⟩
    | none =>
      rw [q] at f
      have f : fnS σ m = -1 := f
      rw [if_neg (by omega)]
      dsimp only
      rw [wld_g h (k := 96) (by omega), wld_g h (k := 101) (s := m) (by omega), wld_g h (k := 99) (by omega), fr_W h]
      by_cases c2 : wg W 96 m = 0
      · rw [if_pos c2, if_pos c2]
        exact ⟨h, rfl⟩
      · rw [if_neg c2, if_neg c2]
        by_cases c3 : x.toInt = 2
        · rw [if_pos c3, if_pos c3]
          exact ⟨h, rfl⟩
        · rw [if_neg c3, if_neg c3]
          by_cases c4 : wg W 101 m = wg W 99 m
          · rw [if_pos c4, if_pos c4]
            exact ⟨h, rfl⟩
          · rw [if_neg c4, if_neg c4]
            cases freR W m with
            | none => exact ⟨h, rfl⟩
            | some e =>
              refine ⟨pu_W (ne_W h hm kl hk k8) hm ?_ (fun i hi => ?_) v8, rfl⟩
              · rw [vl, wg_wset_o (by decide), wg_wset_o (by decide), wg_wsL_o (by decide), wg_wset_o (by decide)]
              · rw [neS_o (by omega)]
                exact hv i hi
theorem hp_2 (h : RelR σ c) (hI : invW (cW c)) (hE : EC σ E) (e : hpT RB RH E c 2 nx = some (k, c')) : hpo σ c 2 nx k c' := by
  unfold hpT at e
  rw [if_pos (Or.inr (Or.inl rfl))] at e
  by_cases mp : isMap (rdR c 1)
  · rw [if_neg (not_not_intro mp)] at e
    obtain ⟨m, hm, em, e0⟩ := mp_R h (r := 1) (by decide) mp
    rw [em, Int.toNat_natCast] at e
    have g7 : gI σ 97 m = wg (cW c) 97 m := wld_g (RelR_wld h) (by omega)
    have g8 : gI σ 98 m = wg (cW c) 98 m := wld_g (RelR_wld h) (by omega)
    have i1 := (hI.1 m hm).1
    obtain ⟨N, hN⟩ : ∃ N : Nat, N = (wg (cW c) 97 m).toNat := ⟨_, rfl⟩
    obtain ⟨M, hM⟩ : ∃ N : Nat, N = (wg (cW c) 98 m).toNat := ⟨_, rfl⟩
    have eN : gI σ 97 m = (N : Int) := by omega
    have eM : gI σ 98 m = (M : Int) := by omega
    have eE : (E.2.1 m).toNat = N := by rw [← (hE m hm).1]; omega
    have eE2 : (E.2.2 m).toNat = M := by rw [← (hE m hm).2]; omega
    rw [eE] at e
    cases ek : rdL RB c (rdR c 2).1 (rdR c 2).2.toNat N with
    | none =>
      rw [ek] at e
      cases e
    | some L =>
      rw [ek] at e
      dsimp only at e
      rw [if_neg (show ¬ (2 : Int) = 1 by decide), if_neg (show ¬ (2 : Int) = 3 by decide), eE2] at e
      cases ev : rdL RB c (rdR c 3).1 (rdR c 3).2.toNat M with
      | none =>
        rw [ev] at e
        cases e
      | some L2 =>
        rw [ev] at e
        dsimp only at e
        by_cases z4 : (rdR c 4).1 = 0
        · rw [if_neg (not_not_intro z4)] at e
          obtain ⟨r4, _⟩ := rd_R h (r := 4) (by decide) (by omega)
          have r4 : gL σ 146 (rpR c 4) = (rdR c 4).2 := r4.trans (enG_z z4)
          obtain ⟨t5, ln⟩ := tk_R h (r := 2) (K := 110) (by decide) (Or.inl ⟨rfl, by omega⟩) ek
          obtain ⟨ru, ku, mu, gu⟩ := key_W (L := L) (n := N) h (by omega) 110 (Or.inl rfl)
          have l3 : gL (wzS σ 110 0 (L.map kpW)) 146 (rpR c 3) = gL σ 146 (rpR c 3) := gL_2 (wzS_2 _ _ _) _ _
          obtain ⟨υ, hυ⟩ : ∃ υ, υ = wzS σ 110 0 (L.map kpW) := ⟨_, rfl⟩
          rw [← hυ] at t5 ru ku mu gu l3
          obtain ⟨t7, lm⟩ := tk_R ru (r := 3) (K := 111) (by decide) (Or.inr ⟨rfl, by omega⟩) ev
          rw [l3] at t7
          obtain ⟨rv, kv, mv, gv⟩ := key_W (L := L2) (n := M) ru (by omega) 111 (Or.inr rfl)
          obtain ⟨ω, hω⟩ : ∃ ω, ω = wzS υ 111 0 (L2.map kpW) := ⟨_, rfl⟩
          rw [← hω] at t7 rv kv mv gv
          have b0 : 0 ≤ (m : Int) ∧ (m : Int) < 8 := by omega
          have wv := RelR_wld rv
          have u7 := wld_g wv (k := 97) (s := m) (by omega)
          have u8 := wld_g wv (k := 98) (s := m) (by omega)
          have u1 := wld_g wv (k := 101) (s := m) (by omega)
          have u9 := wld_g wv (k := 99) (s := m) (by omega)
          have kk : ∀ i, i < L.length → gI ω 110 i = (L.map kpW).getD i 0 := fun i hi => (gv _ _ (by omega)).trans (ku i hi)
          have f := fn_W (key := L.map kpW) wv hm hI (fun i hi => kk i (by omega))
          have f32 : fnS ω m < 32 := by
            rw [f]
            cases q : finR (cW c) m (L.map kpW) with
            | none => decide
            | some j =>
              have := fin_32 hm hI q
              show (j : Int) < 32
              omega
          have t6 := T411 (σ := ω) (x := (rdR c 4).2) hm (by omega) (by omega) (by omega) (by omega) f32
          obtain ⟨wt, vt⟩ := up_W (x := (rdR c 4).2) (key := L.map kpW) (val := L2.map kpW) wv hm hI (by rw [List.length_map]; omega) (fun i hi => kk i (by rw [List.length_map] at hi; exact hi)) (fun i hi => mapg (by rw [List.length_map] at hi; exact hi)) (by rw [List.length_map]; omega) (fun i hi => kv i (by rw [List.length_map] at hi; exact hi)) (fun i hi => mapg (by rw [List.length_map] at hi; exact hi))
          have gt : ∀ k s, ¬ (100 ≤ k ∧ k ≤ 104) → gI (upM ω m (rdR c 4).2).1 k s = gI ω k s := fun k s z => upM_o z
          have lt := gL_2 (upM_2 (σ := ω) (m := m) (x := (rdR c 4).2))
          rw [vt] at t6
          have e : bhT c (cS c) (updR (cW c) m (L.map kpW) (L2.map kpW) (rdR c 4).2.toInt).1 (0, BitVec.ofInt 64 (updR (cW c) m (L.map kpW) (L2.map kpW) (rdR c 4).2.toInt).2) nx = some (k, c') := e
          refine hpo_b (v := iL (updR (cW c) m (L.map kpW) (L2.map kpW) (rdR c 4).2.toInt).2) (τ := (upM ω m (rdR c 4).2).1) ?_ (mvR_t (mvR_t mu mv) ⟨fun k s z => gt k s (by omega), fun k s _ _ => lt k s, by rw [upM_2]⟩) (fun s z => (gt _ _ (by omega)).trans ((gv _ _ (by omega)).trans (gu _ _ (by omega)))) (RelR_w rv (gt _ _ (by omega)) (fun s => lt _ _) (fun s => gt _ _ (by omega)) (fun s => gt _ _ (by omega)) wt) enG_0.symm okSV_0 e
          have gm : gI υ 98 m = (M : Int) := (gu _ _ (by omega)).trans eM
          rw [L563 h, e0, e563_51]
          simp only [Option.getD_some, Option.bind_some, Option.toList_some, Option.toList_none, List.cons_append, List.nil_append, and_self, and_true, true_and, false_and, and_false, ite_self, not_true_eq_false, not_false_eq_true, reduceIte, Nat.reduceEqDiff, ab_I, ab_L, ab_R, ao_I, ao_L, ao_R, gL_sL, gI_sI, gR_sR, gI_sL, gI_sR, gL_sI, gL_sR, gR_sI, gR_sL, Int.reduceEq, if_true, if_false, g_97, g_98, b0.1, b0.2, Int.toNat_natCast, eN, t5, e563_211, gm, t7, e563_228, r4, t6, e563_236]
        · rw [if_pos z4] at e
          cases e
  · rw [if_pos mp] at e
    cases e
end RWLD
