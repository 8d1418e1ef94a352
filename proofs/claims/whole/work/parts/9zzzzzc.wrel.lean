/-! ===== maps from outside: what each does to the rest of the machine, the class ===== -/
/-- what is so of maps that are told -/
def MP (W : WR) : Prop := ∀ m : Nat, m < 8 → (¬ wg W 95 m = 0 → (0 ≤ wg W 96 m ∧ wg W 96 m ≤ 3) ∧ (1 ≤ wg W 99 m ∧ wg W 99 m ≤ 16) ∧ (wg W 96 m ≤ 1 → (1 ≤ wg W 97 m ∧ wg W 97 m ≤ 16) ∧ (1 ≤ wg W 98 m ∧ wg W 98 m ≤ 64)) ∧ (wg W 96 m = 0 → wg W 97 m = 4)) ∧ ∀ x : Nat, x < 16 → -1 ≤ wg W 106 (16 * m + x)
/-- the cells of a map: the class's, the machine's -/
abbrev inMC (m k s : Nat) : Prop := (k = 28 ∧ s / 512 = m) ∨ ((29 ≤ k ∧ k ≤ 34 ∨ k = 38) ∧ s = m) ∨ ((k = 35 ∨ k = 36) ∧ s / 16 = m) ∨ (k = 37 ∧ s / 32 = m)
abbrev inMW (m k s : Nat) : Prop := ((95 ≤ k ∧ k ≤ 99 ∨ k = 101 ∨ k = 107) ∧ s = m) ∨ ((k = 103 ∨ k = 106 ∨ k = 108) ∧ s / 16 = m) ∨ (k = 102 ∧ s / 256 = m) ∨ ((k = 104 ∨ k = 105) ∧ s / 32 = m) ∨ (k = 109 ∧ s / 1024 = m)
section WREL
variable {σ τ ρ υ A B : MS} {W V : WR} {m n p q e j i c k s z N : Nat} {x y f kd1 key value most : Int} {E : EV} {φ ψ : Nat → Nat} {L : List Int}
theorem wldO_m (h : wldO σ W) (pk : wg W 80 105 ≤ 256) (hM : wldM τ (fun _ => 0) V) (hS : ∀ k s, (k = 27 ∧ (s < 256 ∨ 788 ≤ s ∧ s < 17172)) ∨ k = 16 ∨ k = 79 ∨ (k = 71 ∧ (s = 10 ∨ s = 11 ∨ s = 12 ∨ s = 15 ∨ s = 18)) → gI τ k s = gI σ k s) (hL : ∀ s, s = 13 ∨ s = 16 → gL τ 71 s = gL σ 71 s) (hW : ∀ k s, k = 80 ∨ k = 85 ∨ k = 100 ∨ k = 144 ∨ k = 145 ∨ k = 152 → wg V k s = wg W k s) (h2 : V.2 = W.2) : wldO τ V := by
  obtain ⟨_, h0, k4, k5, ⟨z1, z2, z3⟩, k7, k8, ⟨m1, m2, m3, m4⟩, k11⟩ := h
  refine ⟨hM, fun i hi => (hW 152 i (by omega)).trans (h0 i hi), wcV_q k4 (fun s z => hS _ _ (by omega)) (fun s => hW _ _ (by omega)), wcQ_q k5 pk (fun s z => hS _ _ (by omega)) (fun s => hW _ _ (by omega)) (hW _ _ (by omega)), ⟨?_, ?_, ?_⟩, wcG_q k7 (fun s => hS _ _ (by omega)) (fun s => hW _ _ (by omega)), wcX_q k8 (fun s => hS _ _ (by omega)) (fun s => hW _ _ (by omega)) (hW _ _ (by omega)), ⟨?_, ?_, ?_, ?_⟩, wcL_q k11 (hL 13 (by omega)) (hL 16 (by omega)) h2⟩
  · rw [hW 80 105 (by omega), hS 71 10 (by omega)]; exact z1
  · rw [hW 80 110 (by omega), hS 71 15 (by omega)]; exact z2
  · rw [hW 80 113 (by omega), hS 71 18 (by omega)]; exact z3
  · rw [hW 80 106 (by omega), hS 71 11 (by omega)]; exact m1
  · rw [hW 80 107 (by omega), hS 71 12 (by omega)]; exact m2
  · rw [hW 80 106 (by omega)]; exact m3
  · rw [hW 80 106 (by omega)]; exact m4
/-- nothing of it changed -/
theorem wldO_g (h : wldO σ W) (pk : wg W 80 105 ≤ 256) (hS : ∀ k s, (k = 27 ∧ (s < 256 ∨ 788 ≤ s)) ∨ k = 16 ∨ k = 79 ∨ (k = 71 ∧ (s = 10 ∨ s = 11 ∨ s = 12 ∨ s = 15 ∨ s = 18)) ∨ (28 ≤ k ∧ k ≤ 38) ∨ (k = 26 ∧ s = 12) → gI τ k s = gI σ k s) (hL : ∀ s, s = 13 ∨ s = 16 → gL τ 71 s = gL σ 71 s) : wldO τ W :=
  wldO_m h pk (wldM_r h.1 (fun k s z => hS _ _ (by omega)) (fun s z => hS _ _ (by omega)) (fun _ _ _ => rfl)) (fun k s z => hS _ _ (by omega)) hL (fun _ _ _ => rfl) rfl
/-- of the maps one changed -/
theorem wldM_1 (h : wldM σ φ W) (hm : m < 8) (h0 : ∀ i, i < 64 → wg V 152 i = 0) (w0 : ∀ i, i < 64 → wg W 152 i = 0) (hS : ∀ k s, 28 ≤ k ∧ k ≤ 38 → ¬ inMC m k s → gI τ k s = gI σ k s) (h26 : gI τ 26 12 = gI σ 26 12) (hS7 : ∀ s, 17172 ≤ s → gI τ 27 s = gI σ 27 s) (hW : ∀ k s, 95 ≤ k ∧ k ≤ 109 ∧ ¬ k = 100 → ¬ inMW m k s → wg V k s = wg W k s) (hT : wcM τ (fun _ => 0) V m) : wldM τ (fun _ => 0) V := by
  have hz : ∀ (X : WR) (m : Nat), (∀ i, i < 64 → wg X 152 i = 0) → hldR X m = 0 := fun X m hx => by
    unfold hldR
    rw [List.filter_eq_nil_iff.mpr fun i hi => by
      have := hx i (List.mem_range.mp hi)
      simp [this]]
    rfl
  refine ⟨fun m' hm' => ?_, fun i hi z => absurd (h0 i hi) z, fun i j hi _ z => absurd (h0 i hi) z⟩
  by_cases e : m' = m
  · rw [e]
    exact hT
  · obtain ⟨a1, a2, a3, a4, a5, a6⟩ := (wldM_p (ψ := fun _ => 0) h w0).1 m' hm'
    refine ⟨wcK_q a1 (fun k z => hS _ _ (by omega) (by omega)) (fun k z => hW _ _ (by omega) (by omega)), wcT_q a2 (fun k s z => hS _ _ (by omega) (by omega)) (fun k s z => hW _ _ (by omega) (by omega)) (fun z => by rw [h26]; exact z), wcP_q a3 (fun k s z => hS _ _ (by omega) (by omega)) (fun k s z => hW _ _ (by omega) (by omega)), wcR_q a4 (fun k s z => hS _ _ (by omega) (by omega)) (fun _ e b _ _ => hS7 _ (by omega)) (fun k s z => hW _ _ (by omega) (by omega)) (by rw [hz V m' h0, hz W m' w0]), fun k3 i hi n37 => ?_, wcN_q a6 (fun k s z => hS _ _ (by omega) (by omega)) (fun k s z => hW _ _ (by omega) (by omega))⟩
    rw [hW 96 m' (by omega) (by omega)] at k3
    rw [hS 37 _ (by omega) (by omega)] at n37
    obtain ⟨q1, q2⟩ := a5 k3 i hi n37
    refine ⟨q1, ?_⟩
    rcases q2 with ⟨j, j1, j2, _⟩ | ⟨e', e1, e2⟩
    · exact absurd (w0 j j1) j2
    · have l16 := (a4 k3).1.2
      exact Or.inr ⟨e', by rw [hW 107 m' (by omega) (by omega)]; exact e1, by rw [hS 35 _ (by omega) (by omega)]; exact e2⟩
theorem hld_z (m : Nat) (h : ∀ i, i < 64 → wg W 152 i = 0) : hldR W m = 0 := by
  unfold hldR
  rw [List.filter_eq_nil_iff.mpr fun i hi => by
    have := h i (List.mem_range.mp hi)
    simp [this]]
  rfl
theorem reR_o {ky : List Int} (h : ¬ (101 ≤ k ∧ k ≤ 105)) : wg (remR W m ky y).1 k s = wg W k s := by
  unfold remR
  split
  · rfl
  · split
    · rfl
    · dsimp only
      rw [wg_wmv_o (by omega), wg_wmv_o (by omega), wg_wset_o (by omega), wg_wset_o (by omega), wg_wset_o (by omega)]
/-- remove: the class -/
theorem T309 (C : CEO σ E) (hm : m < 8) (h : 0 ≤ E.1 m ∧ E.1 m ≤ 1) (wo : wldO σ W) (hI : invW W) (hb : bOk σ) (o : okmC σ m) (h5 : W5 W) (hl : gI σ 0 1 = gI σ 31 m) : ∃ ρ, MM 309 [mR (some 0), mI (m : Int)] σ = some (some (mI (remR W m ((tpW σ 1 0 (wg W 97 m).toNat).map kpW) 0).2), ρ) ∧ wldO ρ (remR W m ((tpW σ 1 0 (wg W 97 m).toNat).map kpW) 0).1 ∧ W5 (remR W m ((tpW σ 1 0 (wg W 97 m).toNat).map kpW) 0).1 ∧ ρ.2 = σ.2 ∧ gI ρ 0 1 = 0 ∧ ∀ k s, ¬ (k = 34 ∨ k = 35 ∨ k = 37 ∨ (k = 26 ∧ s = 12)) → ¬ (k = 0 ∧ s = 1) → gI ρ k s = gI σ k s := by
  have pk := hI.2.2.2.1.1.2
  obtain ⟨α, hα⟩ : ∃ α, α = sI σ 0 1 0 := ⟨_, rfl⟩
  have ga : ∀ k s, ¬ (k = 0 ∧ s = 1) → gI α k s = gI σ k s := fun k s z => by rw [hα, gI_sI, if_neg z]
  have wa : wldO α W := wldO_g wo pk (fun k s z => ga _ _ (by omega)) (fun s _ => by rw [hα]; rfl)
  have ba : bOk α := fun k s hk => by
    by_cases c : k = 0 ∧ s = 1
    · rw [c.1, kc_0] at hk
      exact absurd hk (by decide)
    · rw [ga k s c]
      exact hb k s (by rw [hα] at hk; exact hk)
  have oa : okmC α m := okm_g o fun k s _ => ga _ _ (by omega)
  have ea : tpW σ 1 0 (wg W 97 m).toNat = tpW α 1 0 (wg W 97 m).toNat := by
    rw [hα, tpW_o]
  obtain ⟨_, c2, c3, c4, _⟩ := (wa.1.1 m hm).1
  obtain ⟨o1, o2, o3, o4, o5, o6⟩ := id oa
  have r := cq_r (σ := α) (W := W)
  have e1 : tpW α 1 0 (wg W 97 m).toNat = rmC (cmpS α W) 256 (wg W 97 m).toNat := tp_rm (p := 0) r (by omega)
  obtain ⟨ky, hky⟩ : ∃ ky, ky = (tpW α 1 0 (wg W 97 m).toNat).map kpW := ⟨_, rfl⟩
  obtain ⟨τ1, t1, w1, _, _⟩ := rem_C (p := 256) (cq_C wa pk) (cq_b ba) hI hm (okm_r r oa) (by omega)
  rw [← e1, ← hky] at t1 w1
  obtain ⟨τ2, t2, f1, f2⟩ := T54 (p := 256) hm (okm_r r oa) (by rw [← r.1 31 m (by omega) (by omega)]; omega)
  have e12 : τ1 = τ2 := by
    have t2 := t1.symm.trans t2
    injection t2 with t2
    injection t2
  obtain ⟨τ, u1, g1, g2⟩ := T54t (p := 0) hm oa (by omega)
  have er := ent_r (m := m) r (by omega)
  have e30 : gI (cmpS α W) 30 m = gI α 30 m := (r.1 30 m (by omega) (by omega)).symm
  have rr : cqR τ τ1 := by
    rw [e12]
    by_cases q : gI α 30 m = 0 ∨ entT α m 0 = none
    · rw [g1 q, f1 (by rw [e30, ← er]; exact q)]
      exact r
    · have k1 : gI α 30 m = 1 := by
        rcases o1 with z | z
        · exact absurd (Or.inl z) q
        · exact z
      cases qe : entT α m 0 with
      | none => exact absurd (Or.inr qe) q
      | some e =>
        obtain ⟨b1, b2', b3⟩ := g2 e k1 qe
        obtain ⟨d1, d2, d3⟩ := f2 e (e30.trans k1) (by rw [← er]; exact qe)
        refine ⟨fun k s z1 z2 => ?_, fun i hi => ?_, b2'.trans (r.2.2.trans d2.symm)⟩
        · rw [b3, d3, r.1 34 m (by omega) (by omega), r.1 35 (s + 1) (by omega) (by omega), r.1 35 (16 * m + e) (by omega) (by omega), r.1 k s z1 z2]
        · rw [b3, d3, if_neg (by omega), if_neg (by omega), if_neg (by omega), if_neg (by omega), if_neg (by omega), if_neg (by omega), if_neg (by omega), if_neg (by omega)]
          exact r.2.1 i hi
  have v0 : ∀ i, i < 64 → wg (remR W m ky 1).1 152 i = 0 := fun i hi => by
    rw [reR_o (by omega)]
    exact wa.2.1 i hi
  have mτ : wldM τ (fun _ => 0) (remR W m ky 1).1 := wldM_p (wldM_r w1.1 (fun k s z => rr.1 _ _ (by omega) (by omega)) (fun s z => rr.1 _ _ (by omega) (by omega)) (fun _ _ _ => rfl)) v0
  obtain ⟨ρ, x1, x2, x3⟩ := T56 (σ := τ)
  have gn : ∀ k s, ¬ (k = 37 ∨ (k = 26 ∧ s = 12) ∨ (k = 71 ∧ s = 11)) → gI ρ k s = gI τ k s := fun k s z => by rw [x3, if_neg (by omega), if_neg (by omega)]
  have gn' : ∀ k s, ¬ (k = 37 ∨ (k = 26 ∧ s = 12)) → gI ρ k s = gI τ k s := fun k s z => by rw [x3, if_neg (by omega), if_neg (by omega)]
  have mρ : wldM ρ (fun _ => 0) (edW (remR W m ky 1).1) := fre_M mτ v0 (fun s => by
    rw [x3]
    by_cases q : ¬ gI τ 26 12 = 0 ∧ s < 256 ∧ gI τ 37 s = 2 ∧ gI τ 30 (s / 32) = 1
    · rw [if_pos ⟨q.1, rfl, q.2⟩, if_pos q]
    · rw [if_neg (fun z => q ⟨z.1, z.2.2⟩), if_neg q, if_neg (by omega)]) gn
  obtain ⟨y1, y2, y3⟩ := w5_rem (key := ky) h5 hm (hI.2.1 m · hm)
  rw [y1] at mρ
  have gτ : ∀ k s, ¬ (k = 34 ∨ k = 35 ∨ k = 37 ∨ (k = 26 ∧ s = 12)) → gI τ k s = gI α k s := fun k s z => by
    by_cases q : gI α 30 m = 0 ∨ entT α m 0 = none
    · rw [g1 q]
    · have k1 : gI α 30 m = 1 := by
        rcases o1 with z | z
        · exact absurd (Or.inl z) q
        · exact z
      cases qe : entT α m 0 with
      | none => exact absurd (Or.inr qe) q
      | some e =>
        rw [(g2 e k1 qe).2.2, if_neg (by omega), if_neg (by omega), if_neg (by omega), if_neg (by omega)]
  have τ2' : τ.2 = α.2 := by
    by_cases q : gI α 30 m = 0 ∨ entT α m 0 = none
    · rw [g1 q]
    · have k1 : gI α 30 m = 1 := by
        rcases o1 with z | z
        · exact absurd (Or.inl z) q
        · exact z
      cases qe : entT α m 0 with
      | none => exact absurd (Or.inr qe) q
      | some e => exact (g2 e k1 qe).2.1
  have ρ2 : ρ.2 = α.2 := x2.trans τ2'
  have gρ : ∀ k s, ¬ (k = 34 ∨ k = 35 ∨ k = 37 ∨ (k = 26 ∧ s = 12)) → gI ρ k s = gI α k s := fun k s z => (gn' k s (by omega)).trans (gτ k s z)
  have u1 : MM 54 [mR (some 26), mI (m : Int), mR (some 1), mI ((0 : Nat) : Int)] α = some (some (mI (remR W m ky 0).2), τ) := by
    have a := t1.symm.trans t2
    injection a with a
    injection a with a1 a2
    injection a1 with a1
    injection a1 with a1
    rw [u1, ← y2, a1, e30, ← er]
    by_cases q : gI α 30 m = 0
    · rw [if_pos q, if_pos q]
    · rw [if_neg q, if_neg q]
      cases entT α m 0 <;> rfl
  rw [ea, ← hky]
  refine ⟨ρ, ?_, wldO_m wa pk mρ (fun k s z => gρ _ _ (by omega)) (fun s _ => by unfold gL; rw [ρ2]) (fun k s z => reR_o (by omega)) ?_, y3, ρ2.trans (by rw [hα]; rfl), ?_, fun k s z1 z2 => (gρ k s z1).trans (ga k s z2)⟩
  · have e31 : gI α 31 m = gI σ 31 m := ga _ _ (by omega)
    rw [M309, e309_0, T294]
    simp only [Option.bind_some, Option.toList_some, Option.toList_none, List.cons_append, List.nil_append]
    rw [← hα, e309_4, T46y (CEO_g C fun k m _ => ga _ _ (by omega)) hm h]
    simp only [Option.bind_some, Option.toList_some, Option.toList_none, List.cons_append, List.nil_append]
    have u1 : MM 54 [mR (some 26), mI (m : Int), mR (some 1), mI 0] α = _ := u1
    rw [e309_13, if_neg n10, if_pos (by rw [g_31]; omega), Int.toNat_natCast, e31, if_pos hl, u1]
    simp only [Option.bind_some, Option.toList_some, Option.toList_none, List.cons_append, List.nil_append]
    rw [e309_44, x1]
    simp only [Option.bind_some, Option.toList_some, Option.toList_none, List.cons_append, List.nil_append]
    rw [e309_52]
  · unfold remR
    split
    · rfl
    · split <;> rfl
  · rw [gρ 0 1 (by omega), hα, gI_sI, if_pos ⟨rfl, rfl⟩]
/-! link -/
def cnJ (g : Nat → Int) : Nat → Int
  | 0 => 0
  | n + 1 => cnJ g n + (if g n < 0 then 0 else 1)
theorem cnJ_f (g : Nat → Int) (n : Nat) : (((List.range n).filter fun x => decide (0 ≤ g x)).length : Int) = cnJ g n := by
  induction n with
  | zero => rfl
  | succ n ih =>
    have e : cnJ g (n + 1) = cnJ g n + (if g n < 0 then 0 else 1) := rfl
    rw [List.range_succ, List.filter_append, List.length_append, e, ← ih]
    by_cases c : g n < 0
    · rw [if_pos c, List.filter_cons_of_neg (by simpa using c)]
      show ((_ + 0 : Nat) : Int) = _
      omega
    · rw [if_neg c, List.filter_cons_of_pos (by simpa using Int.not_lt.mp c)]
      show ((_ + 1 : Nat) : Int) = _
      omega
theorem cnJ_u (g g' : Nat → Int) (i n : Nat) (h : ∀ x, ¬ x = i → g' x = g x) : cnJ g' n = cnJ g n + (if i < n then (if g' i < 0 then 0 else 1) - (if g i < 0 then 0 else 1) else 0) := by
  induction n with
  | zero => rfl
  | succ n ih =>
    have e : cnJ g (n + 1) = cnJ g n + (if g n < 0 then 0 else 1) := rfl
    have e' : cnJ g' (n + 1) = cnJ g' n + (if g' n < 0 then 0 else 1) := rfl
    rw [e, e', ih]
    by_cases c : n = i
    · rw [if_neg (show ¬ i < n by omega), if_pos (show i < n + 1 by omega), c]
      omega
    · rw [h n c]
      by_cases d : i < n
      · rw [if_pos d, if_pos (show i < n + 1 by omega)]
        omega
      · rw [if_neg d, if_neg (show ¬ i < n + 1 by omega)]
        omega
theorem cnP_J : (cnP W m : Int) = cnJ (fun x => wg W 106 (16 * m + x)) 16 := cnJ_f _ _
theorem cnI_J (n : Nat) (h : ∀ x, gI σ 106 (16 * m + x) = wg W 106 (16 * m + x)) : cnI σ m n = cnJ (fun x => wg W 106 (16 * m + x)) n := by
  induction n with
  | zero => rfl
  | succ n ih =>
    show cnI σ m n + (if gI σ 106 (16 * m + n) < 0 then 0 else 1) = cnJ (fun x => wg W 106 (16 * m + x)) n + (if wg W 106 (16 * m + n) < 0 then 0 else 1)
    rw [ih, h]
theorem link_C (wo : wldO σ W) (hI : invW W) (hm : m < 8) (k2 : wg W 96 m = 2) (k95 : ¬ wg W 95 m = 0) (hi : i < 16) (hf : -1 ≤ f) (ho : -1 ≤ wg W 106 (16 * m + i)) : wldO (sI (sI σ 34 m (gI σ 34 m + ((if f = -1 then 0 else 1) - (if gI σ 35 (16 * m + i) = -1 then 0 else 1)))) 35 (16 * m + i) f) (wset W 106 (16 * m + i) f) := by
  have pk := hI.2.2.2.1.1.2
  obtain ⟨a1, a2, a3, a4, a5, a6⟩ := wo.1.1 m hm
  obtain ⟨p1, p2⟩ := a3.1 k2
  have g : ∀ k s, gI (sI (sI σ 34 m (gI σ 34 m + ((if f = -1 then 0 else 1) - (if gI σ 35 (16 * m + i) = -1 then 0 else 1)))) 35 (16 * m + i) f) k s = if k = 35 ∧ s = 16 * m + i then f else if k = 34 ∧ s = m then gI σ 34 m + ((if f = -1 then 0 else 1) - (if gI σ 35 (16 * m + i) = -1 then 0 else 1)) else gI σ k s := fun k s => by rw [gI_sI, gI_sI]
  obtain ⟨τ, hτ⟩ : ∃ τ, τ = sI (sI σ 34 m (gI σ 34 m + ((if f = -1 then 0 else 1) - (if gI σ 35 (16 * m + i) = -1 then 0 else 1)))) 35 (16 * m + i) f := ⟨_, rfl⟩
  have lτ : ∀ s, gL τ 71 s = gL σ 71 s := fun s => by rw [hτ]; rfl
  rw [← hτ] at g ⊢
  have v : ∀ k s, ¬ k = 106 → wg (wset W 106 (16 * m + i) f) k s = wg W k s := fun k s z => wg_wset_o z
  have v6 : ∀ x, wg (wset W 106 (16 * m + i) f) 106 (16 * m + x) = if x = i then f else wg W 106 (16 * m + x) := fun x => by
    rw [wg_wset]
    by_cases c : x = i
    · rw [if_pos ⟨rfl, by rw [c]⟩, if_pos c]
    · rw [if_neg (by omega), if_neg c]
  refine wldO_m wo pk (wldM_1 (m := m) wo.1 hm (fun i hi => by rw [v _ _ (by omega)]; exact wo.2.1 i hi) wo.2.1 (fun k s z1 z2 => by rw [g, if_neg (by omega), if_neg (by omega)]) (by rw [g, if_neg (by omega), if_neg (by omega)]) (fun s _ => by rw [g, if_neg (by omega), if_neg (by omega)]) (fun k s z1 z2 => ?_) ⟨?_, fun z => ?_, ⟨fun z => ⟨fun x hx => ?_, ?_⟩, fun z => ?_⟩, fun z => ?_, fun z => ?_, fun z => ?_⟩) (fun k s z => by rw [g, if_neg (by omega), if_neg (by omega)]) (fun s _ => lτ s) (fun k s z => v _ _ (by omega)) rfl
  · by_cases c : k = 106
    · rw [c, wg_wset, if_neg (by omega)]
    · exact v k s c
  · exact wcK_q a1 (fun k z => by rw [g, if_neg (by omega), if_neg (by omega)]) (fun k z => v _ _ (by omega))
  · rw [v _ _ (by omega), k2] at z
    exact absurd z (by decide)
  · rw [v6, g]
    by_cases c : x = i
    · rw [if_pos c, if_pos ⟨rfl, by rw [c]⟩]
    · rw [if_neg c, if_neg (by omega), if_neg (by omega)]
      exact p1 x hx
  · rw [g, if_neg (by omega), if_pos ⟨rfl, rfl⟩, p2, cnP_J, cnP_J, cnJ_u (fun x => wg W 106 (16 * m + x)) (fun x => wg (wset W 106 (16 * m + i) f) 106 (16 * m + x)) i 16 (fun x hx => by rw [v6, if_neg hx]), if_pos hi]
    have e1 : gI σ 35 (16 * m + i) = wg W 106 (16 * m + i) := (p1 i hi).symm
    have e2 : wg (wset W 106 (16 * m + i) f) 106 (16 * m + i) = f := by rw [v6, if_pos rfl]
    have e3 : (if f = -1 then (0 : Int) else 1) = (if f < 0 then 0 else 1) := by
      by_cases c : f = -1
      · rw [if_pos c, if_pos (by omega)]
      · rw [if_neg c, if_neg (by omega)]
    have e4 : (if gI σ 35 (16 * m + i) = -1 then (0 : Int) else 1) = (if wg W 106 (16 * m + i) < 0 then 0 else 1) := by
      rw [e1]
      by_cases c : wg W 106 (16 * m + i) = -1
      · rw [if_pos c, if_pos (by omega)]
      · rw [if_neg c, if_neg (by omega)]
    rw [e3, e4, e2]
  · rw [v _ _ (by omega), k2] at z
    exact absurd z (by decide)
  · rw [v _ _ (by omega), k2] at z
    exact absurd z (by decide)
  · rw [v _ _ (by omega), k2] at z
    exact absurd z (by decide)
  · rw [v _ _ (by omega)] at z
    exact absurd z k95
theorem link_I (hI : invW W) (hf : f < 8) : invW (wset W 106 c f) := by
  obtain ⟨h1, h2, h3, h4, h5, h6, h7⟩ := hI
  have v : ∀ k s, ¬ k = 106 → wg (wset W 106 c f) k s = wg W k s := fun k s z => wg_wset_o z
  refine ⟨fun m hm => ?_, fun m e hm he => ?_, fun k s hk => ?_, ?_, fun i hi hh => ?_, fun m hm => ?_, fun m x hm hx => ?_⟩
  · rw [v 97 _ (by omega), v 98 _ (by omega), v 99 _ (by omega), v 101 _ (by omega), v 96 _ (by omega)]
    exact h1 m hm
  · rw [v 101 _ (by omega)] at he
    rw [v 103 _ (by omega)]
    exact h2 m e hm he
  · rw [v k _ (by omega)]
    exact h3 k s hk
  · rw [v 80 _ (by omega), v 80 _ (by omega), v 80 _ (by omega)]
    exact h4
  · rw [v 152 _ (by omega)] at hh
    rw [v 151 _ (by omega), v 150 _ (by omega)]
    exact h5 i hi hh
  · rw [v 107 _ (by omega), v 99 _ (by omega), hld_e (V := wset W 106 c f) (W := W) (fun s => v _ _ (by omega)) (fun s => v _ _ (by omega))]
    exact h6 m hm
  · rw [wg_wset]
    split
    · exact hf
    · exact h7 m x hm hx
end WREL
