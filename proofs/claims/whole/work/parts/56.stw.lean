/-! ===== the reference's judge: THE WALK in its rows ===== -/
abbrev wT (k s : Nat) : Prop := (118 ≤ k ∧ k ≤ 134) ∨ (138 ≤ k ∧ k ≤ 143) ∨ (k = 80 ∧ (s = 72 ∨ s = 78 ∨ (82 ≤ s ∧ s ≤ 85) ∨ (87 ≤ s ∧ s ≤ 90) ∨ (101 ≤ s ∧ s ≤ 103)))
/-- what the walk may touch -/
def wq (τ σ : MS) : Prop := (∀ k s, ¬ wT k s → gI τ k s = gI σ k s) ∧ (∀ k s, ¬ ((112 ≤ k ∧ k ≤ 117) ∨ k = 140) → gL τ k s = gL σ k s) ∧ τ.2.2 = σ.2.2
def RHr (σ : MS) (N : Nat) (K : Nat → KT) : Prop := ∀ k, k < N → JSt σ (1 + k) (kS (K k))
def RWt (σ : MS) (M : Nat) (Wt : Nat → WT) : Prop := ∀ j, j < M → JSt σ (252 + j) (wtS (Wt j)) ∧ gI σ 132 j = wtA (Wt j) ∧ gI σ 133 j = (wtK (Wt j) : Int) ∧ gI σ 134 j = wtF (Wt j)
def KN (σ : MS) (x : Int → Option ST) : Prop := ∀ i : Nat, i < 200 → (∀ S, x (i : Int) = some S → KN1 σ i S) ∧ (x (i : Int) = none → gI σ 139 i = 0)
/-- what is told -/
def RTd (σ : MS) (w : WK) : Prop := (gI σ 138 1 = yG w ∧ gI σ 138 2 = (yNn w : Int) ∧ gI σ 138 4 = w.2.2.2.1 ∧ gI σ 138 5 = w.2.2.2.2.1) ∧ KN σ w.2.2.2.2.2
def RC (σ : MS) (w : WK) : Prop := gI σ 80 84 = yG w ∧ gI σ 80 85 = yT w ∧ gI σ 80 72 = (yNn w : Int) ∧ gI σ 80 78 = (yM w : Int)
def RK (σ : MS) (w : WK) : Prop := RC σ w ∧ KR σ (yNn w) (yH w) ∧ RHr σ (yNn w) (yH w) ∧ RWt σ (yM w) (yW w) ∧ RTd σ w
def RN (σ : MS) (w : WK) : Prop := J0 σ (yS w) ∧ gI σ 80 82 = (yK w : Int) ∧ gI σ 80 83 = yF w
section STW
variable {σ τ ρ : MS} {S T : ST} {E : EV} {t g : Int} {N l m i k s M : Nat} {K : Nat → KT} {Wt : Nat → WT} {x : Int → Option ST} {w : B64}
theorem wq_r (σ : MS) : wq σ σ := ⟨fun _ _ _ => rfl, fun _ _ _ => rfl, rfl⟩
theorem wq_t {a b c : MS} (h1 : wq a b) (h2 : wq b c) : wq a c := ⟨fun k s p => (h1.1 k s p).trans (h2.1 k s p), fun k s p => (h1.2.1 k s p).trans (h2.2.1 k s p), h1.2.2.trans h2.2.2⟩
theorem wq_jk (h : jk τ σ) : wq τ σ := ⟨fun k s p => h.1 k s (by omega) (by omega), fun k s p => h.2.1 k s (by omega), h.2.2⟩
theorem jk_of (h : jq τ σ) : jk τ σ := ⟨fun k s p _ => h.1 k s p, h.2.1, h.2.2⟩
theorem wq_jq (h : jq τ σ) : wq τ σ := wq_jk (jk_of h)
theorem wq_sI {v : Int} (h : wT k s) : wq (sI σ k s v) σ := ⟨fun k' s' p => by rw [gI_sI, if_neg (fun q => by rw [q.1, q.2] at p; exact p h)], fun _ _ _ => rfl, rfl⟩
theorem wq_vq (h : vq τ σ) : wq τ σ := ⟨fun k s p => h.1 k s (by omega) (by omega) (by omega), fun k s _ => h.2.1 k s, h.2.2⟩
theorem wq_kq (h : kq τ σ) : wq τ σ := ⟨fun k s p => h.1 k s (by omega), fun k s _ => h.2.1 k s, h.2.2⟩
theorem wq_rc {n : Nat} (hn : n ≤ 10) : wq (recN σ S i n) σ := ⟨fun k s p => rc_I n hn (by omega) (by omega), fun k s p => rc_L n hn (by omega), rc_r n⟩
theorem JSt_fr (hg : ∀ k s, 118 ≤ k → k ≤ 126 → gI τ k s = gI σ k s) (hl : ∀ k s, 112 ≤ k → k ≤ 117 → gL τ k s = gL σ k s) (j : JSt σ i S) : JSt τ i S := by
  obtain ⟨j1, j2, j3, j4, j5⟩ := j
  refine ⟨(hg _ _ (by decide) (by decide)).trans j1, fun k hk => ?_, fun f f1 f2 => (hg _ _ (by decide) (by decide)).trans (j3 f f1 f2), (hg _ _ (by decide) (by decide)).trans j4, fun m hm => (hg _ _ (by decide) (by decide)).trans (j5 m hm)⟩
  rw [← j2 k hk]
  unfold aV rNv
  rw [hg _ _ (by decide) (by decide), hg _ _ (by decide) (by decide), hg _ _ (by decide) (by decide), hg _ _ (by decide) (by decide), hg _ _ (by decide) (by decide), hl _ _ (by decide) (by decide), hl _ _ (by decide) (by decide), hl _ _ (by decide) (by decide), hl _ _ (by decide) (by decide), hl _ _ (by decide) (by decide), hl _ _ (by decide) (by decide)]
theorem jk_J (h : jk τ σ) (hi : ¬ i = 0 ∧ ¬ i = 251 ∧ ¬ i = 313) (hi2 : i < 313) (hk : kst T) (j : JSt σ i T) : JSt τ i T := by
  have hF := hk.1.2
  have hH := hk.2.1
  obtain ⟨j1, j2, j3, j4, j5⟩ := j
  refine ⟨(h.1 _ _ (by omega) (by omega)).trans j1, fun k hk => ?_, fun f f1 f2 => (h.1 _ _ (by omega) (by omega)).trans (j3 f f1 f2), (h.1 _ _ (by omega) (by omega)).trans j4, fun m hm => (h.1 _ _ (by omega) (by omega)).trans (j5 m hm)⟩
  rw [← j2 k hk]
  unfold aV rNv
  rw [h.1 _ _ (by omega) (by omega), h.1 _ _ (by omega) (by omega), h.1 _ _ (by omega) (by omega), h.1 _ _ (by omega) (by omega), h.1 _ _ (by omega) (by omega), h.2.1 _ _ (by omega), h.2.1 _ _ (by omega), h.2.1 _ _ (by omega), h.2.1 _ _ (by omega), h.2.1 _ _ (by omega), h.2.1 _ _ (by omega)]
theorem jk_row (h : jk τ σ) (hN : N ≤ 250) (hk : ∀ k, k < N → kst (kS (K k))) (r : RHr σ N K) : RHr τ N K := fun k q => jk_J h ⟨by omega, by omega, by omega⟩ (by omega) (hk k q) (r k q)
theorem jk_wt (h : jk τ σ) (hM : M ≤ 60) (hk : ∀ j, j < M → kst (wtS (Wt j))) (r : RWt σ M Wt) : RWt τ M Wt := fun j q => by
  obtain ⟨a1, a2, a3, a4⟩ := r j q
  exact ⟨jk_J h ⟨by omega, by omega, by omega⟩ (by omega) (hk j q) a1, (h.1 _ _ (by omega) (by omega)).trans a2, (h.1 _ _ (by omega) (by omega)).trans a3, (h.1 _ _ (by omega) (by omega)).trans a4⟩
theorem KN_fr (hg : ∀ k s, k = 139 ∨ k = 141 → gI τ k s = gI σ k s) (hl : ∀ s, gL τ 140 s = gL σ 140 s) (r : KN σ x) : KN τ x := fun i hi => by
  obtain ⟨r1, r2⟩ := r i hi
  refine ⟨fun S e => ?_, fun e => (hg _ _ (Or.inl rfl)).trans (r2 e)⟩
  obtain ⟨q1, q2⟩ := r1 S e
  refine ⟨(hg _ _ (Or.inl rfl)).trans q1, fun r hr => ?_⟩
  rw [hl, hl, hl, hl, hl, hl, hg _ _ (Or.inr rfl), hg _ _ (Or.inr rfl), hg _ _ (Or.inr rfl), hg _ _ (Or.inr rfl)]
  exact q2 r hr
theorem jk_kn (h : jk τ σ) (r : KN σ x) : KN τ x := KN_fr (fun k s q => h.1 _ _ (by omega) (by omega)) (fun s => h.2.1 _ _ (by omega)) r
/-! a way is laid down -/
theorem wa_v {g : Int} (hm : gI σ 80 78 = (m : Int)) (hl : gI σ 80 82 = (l : Int)) (h4 : (gI σ 123 0).toNat ≤ 4 ∧ (gI σ 125 0).toNat ≤ 64) : gI (waS σ g) 80 78 = (m : Int) + 1 ∧ gI (waS σ g) 138 4 = max (gI σ 138 4) ((m : Int) + 1) ∧ gI (waS σ g) 130 l = gI σ 130 l + 1 ∧ gI (waS σ g) 132 m = g ∧ gI (waS σ g) 133 m = (l : Int) ∧ gI (waS σ g) 134 m = gI σ 80 83 := by
  unfold waS
  rw [hm, hl, Int.toNat_natCast, Int.toNat_natCast]
  refine ⟨?_, ?_, ?_, ?_, ?_, ?_⟩
  · rw [gI_sI, if_neg (by omega), gI_sI, if_pos ⟨rfl, rfl⟩]
  · rw [gI_sI, if_pos ⟨rfl, rfl⟩]
  · rw [gI_sI, if_neg (by omega), gI_sI, if_neg (by omega), gI_sI, if_pos ⟨rfl, rfl⟩]
  · rw [gI_sI, if_neg (by omega), gI_sI, if_neg (by omega), gI_sI, if_neg (by omega), gI_sI, if_neg (by omega), gI_sI, if_neg (by omega), gI_sI, if_pos ⟨rfl, rfl⟩]
  · rw [gI_sI, if_neg (by omega), gI_sI, if_neg (by omega), gI_sI, if_neg (by omega), gI_sI, if_neg (by omega), gI_sI, if_pos ⟨rfl, rfl⟩]
  · rw [gI_sI, if_neg (by omega), gI_sI, if_neg (by omega), gI_sI, if_neg (by omega), gI_sI, if_pos ⟨rfl, rfl⟩]
theorem wa_wq {g : Int} (hm : gI σ 80 78 = (m : Int)) (hl : gI σ 80 82 = (l : Int)) (h4 : (gI σ 123 0).toNat ≤ 4 ∧ (gI σ 125 0).toNat ≤ 64) : wq (waS σ g) σ := ⟨fun k s p => wa_I hm hl h4 (by omega), fun k s p => wa_L hm h4.1 (by omega), wa_r⟩
theorem wa_KR {g : Int} (hm : gI σ 80 78 = (m : Int)) (hl : gI σ 80 82 = (l : Int)) (h4 : (gI σ 123 0).toNat ≤ 4 ∧ (gI σ 125 0).toNat ≤ 64) (h : KR σ N K) : KR (waS σ g) N (upK K l (kS (K l), kA (K l), kB (K l), kF (K l), kW (K l) + 1, kL (K l))) := fun k hk => by
  obtain ⟨a1, a2, a3, a4, a5⟩ := h k hk
  have v := (wa_v (g := g) hm hl h4).2.2.1
  rw [wa_I hm hl h4 (by omega), wa_I hm hl h4 (by omega), wa_I hm hl h4 (by omega), wa_I (k := 131) hm hl h4 (by omega)]
  unfold upK
  by_cases e : k = l
  · subst e
    rw [if_pos rfl]
    exact ⟨a1, a2, a3, by rw [v, a4], a5⟩
  · rw [if_neg e, wa_I hm hl h4 (by omega)]
    exact ⟨a1, a2, a3, a4, a5⟩
theorem wa_row {g : Int} (hm : gI σ 80 78 = (m : Int)) (hl : gI σ 80 82 = (l : Int)) (h4 : (gI σ 123 0).toNat ≤ 4 ∧ (gI σ 125 0).toNat ≤ 64) (hN : N ≤ 250) (hk : ∀ k, k < N → kst (kS (K k))) (r : RHr σ N K) : RHr (waS σ g) N K := fun k q => wa_o hm hl h4 (by omega) (hk k q).1.2 (hk k q).2.1 (r k q)
theorem wa_wt {g f : Int} (hm : gI σ 80 78 = (m : Int)) (hl : gI σ 80 82 = (l : Int)) (h4 : (gI σ 123 0).toNat ≤ 4 ∧ (gI σ 125 0).toNat ≤ 64) (hM : m < 60) (hk : ∀ j, j < m → kst (wtS (Wt j))) (j2 : J0 σ S) (k2 : kst S) (hf : gI σ 80 83 = f) (r : RWt σ m Wt) : RWt (waS σ g) (m + 1) (fun j => if j = m then (S, g, l, f) else Wt j) := fun j q => by
  obtain ⟨v1, v2, v3, v4, v5, v6⟩ := wa_v (g := g) hm hl h4
  by_cases e : j = m
  · subst e
    show JSt _ _ (wtS (if j = j then (S, g, l, f) else Wt j)) ∧ _ = wtA (if j = j then (S, g, l, f) else Wt j) ∧ _ = ((wtK (if j = j then (S, g, l, f) else Wt j) : Nat) : Int) ∧ _ = wtF (if j = j then (S, g, l, f) else Wt j)
    rw [if_pos rfl]
    exact ⟨wa_J hm hM k2.1 k2.2.1 j2, v4, v5, by rw [v6, hf]⟩
  · obtain ⟨a1, a2, a3, a4⟩ := r j (by omega)
    have kj := hk j (by omega)
    show JSt _ _ (wtS (if j = m then (S, g, l, f) else Wt j)) ∧ _ = wtA (if j = m then (S, g, l, f) else Wt j) ∧ _ = ((wtK (if j = m then (S, g, l, f) else Wt j) : Nat) : Int) ∧ _ = wtF (if j = m then (S, g, l, f) else Wt j)
    rw [if_neg e]
    refine ⟨wa_o hm hl h4 (by omega) kj.1.2 kj.2.1 a1, ?_, ?_, ?_⟩
    · rw [wa_I hm hl h4 (by omega)]; exact a2
    · rw [wa_I hm hl h4 (by omega)]; exact a3
    · rw [wa_I hm hl h4 (by omega)]; exact a4
theorem wa_kn {g : Int} (hm : gI σ 80 78 = (m : Int)) (hl : gI σ 80 82 = (l : Int)) (h4 : (gI σ 123 0).toNat ≤ 4 ∧ (gI σ 125 0).toNat ≤ 64) (r : KN σ x) : KN (waS σ g) x := KN_fr (fun k s q => wa_I hm hl h4 (by omega)) (fun s => wa_L hm h4.1 (by omega)) r
/-! which instruction it is -/
theorem jwo_w {f t' : Int} {S' : ST} (h : jpo σ τ f S' (gI σ 80 88) (gI σ 80 89) t') : jwo σ τ N K l (wayJ f (gI σ 80 88) S' t') := by
  unfold wayJ
  by_cases z : f = 0
  · rw [if_pos z]
    rw [z] at h
    exact jwo_1 h
  · rw [if_neg z]
    exact jwo_f (f := f) z rfl ⟨h.2.1, h.1⟩
theorem HJ_88 {n : Int} (H : HJ σ S E t N K l m) : HJ (sI σ 80 88 n) S E t N K l m := by
  obtain ⟨⟨h1, h2, h3, h4⟩, ⟨h5, h6, h7⟩, ⟨h8, h9, h10⟩, ⟨h11, h12⟩, ⟨h13, h14⟩, h15⟩ := H
  refine ⟨⟨JSt_sI (by omega) h1, h2, h3, jq_EO (jq_I (by omega)) h4⟩, ⟨?_, ?_, h7⟩, ⟨fun k hk => ?_, h9, h10⟩, ⟨?_, h12⟩, ⟨?_, h14⟩, ?_⟩
  · rw [gI_sI, if_neg (by omega)]; exact h5
  · rw [gI_sI, if_neg (by omega)]; exact h6
  · rw [gI_sI, if_neg (by omega), gI_sI, if_neg (by omega), gI_sI, if_neg (by omega), gI_sI, if_neg (by omega), gI_sI, if_neg (by omega)]
    exact h8 k hk
  · rw [gI_sI, if_neg (by omega)]; exact h11
  · rw [gI_sI, if_neg (by omega)]; exact h13
  · rw [gI_sI, if_neg (by omega)]; exact h15
theorem wd_88 {n : Int} {j : Nat} : wdA (sI σ 80 88 n) j = wdA σ j := by
  unfold wdA jsA
  rw [gI_sI, if_neg (by omega), gL_sI]
theorem sl_88 {n : Int} (h : okSl σ) : okSl (sI σ 80 88 n) := by
  unfold okSl jsA at *
  rw [gI_sI, if_neg (by omega), gI_sI, if_neg (by omega)]
  exact h
theorem L495 {w2 : B64} (H : HJ σ S E t N K l m) (hE : okE E) (hs : okSl σ) (ha : gI σ 80 87 = (i : Int)) (hi : i < 200) (hw : okI w w2) (h2 : fL w = 0 → i + 1 < 200 ∧ wdA σ (i + 1) = w2) (hg : fL w = 5 ∨ fL w = 6 → ¬ fOp w = 149 → (fOp w = 133 → fS w = 1) → 0 ≤ goal i w ∧ goal i w < 1000) : okc (RR (lkB tb495) (B495_73, [some (mR (some 80)), some (mL w), none, none], [mI (fOp w)], σ)) none (fun τ => jwo (mxS (sI σ 80 88 (if fL w = 0 then (i : Int) + 2 else (i : Int) + 1)) S w) τ N K l (stpJ E S i w w2 t)) := by
  have f := fld_rng w
  have fl : fL w = fOp w % 8 := rfl
  have w1 : w32 ((i : Int) + 1) = (i : Int) + 1 := w32_i (by omega) (by omega)
  by_cases l0 : fL w = 0
  · obtain ⟨h2a, h2b⟩ := h2 l0
    have hp : okPr w w2 := by
      rcases hw with hw | hw
      · exact hw.2
      · exfalso
        have : okPl w := hw
        unfold okPl at this
        rw [if_pos l0] at this
        exact this
    have o24 : fOp w = 24 := hp.1.1
    have em : mxS (sI σ 80 88 ((i : Int) + 2)) S w = sI σ 80 88 ((i : Int) + 2) := if_neg (by omega)
    rw [if_pos l0, em]
    have e2 : wdA (sI σ 80 88 ((i : Int) + 2)) (i + 1) = w2 := wd_88.trans h2b
    have t6 := T496 (w := w) (i := i) (HJ_88 (n := (i : Int) + 2) H) (sl_88 hs) (by rw [gI_sI, if_neg (by omega)]; exact ha) (by rw [gI_sI, if_pos ⟨rfl, rfl⟩]) l0 (by rw [e2]; exact hp) h2a
    rw [e2] at t6
    clear w1
    have w3 : w32 ((i : Int) + 2) = (i : Int) + 2 := w32_i (by omega) (by omega)
    simp only [e495_73, e495_90, Option.getD_some, Option.bind_some, Option.toList_some, Option.toList_none, List.cons_append, List.nil_append, and_self, and_true, true_and, false_and, and_false, ite_self, not_true_eq_false, not_false_eq_true, reduceIte, Nat.reduceEqDiff, ab_I, ab_L, ab_R, ao_I, ao_L, ao_R, gL_sL, gI_sI, gR_sR, gI_sL, gI_sR, gL_sI, gL_sR, gR_sI, gR_sL, eq_true o24, ha, m7, eq_true l0, w3]
    refine okc_b t6 fun τ q => ?_
    simp only [Option.toList_none, List.nil_append, e495_149, e495_176]
    exact okc_s q
  · have o24 : ¬ fOp w = 24 := by clear w1; omega
    rw [if_neg l0]
    have hw : okPl w := by
      rcases hw with hw | hw
      · exact absurd hw.1 l0
      · exact hw
    unfold okPl at hw
    rw [if_neg l0] at hw
    have H' := HJ_88 (n := (i : Int) + 1) H
    have ha' : gI (sI σ 80 88 ((i : Int) + 1)) 80 87 = (i : Int) := by rw [gI_sI, if_neg (by omega)]; exact ha
    have g88 : gI (sI σ 80 88 ((i : Int) + 1)) 80 88 = (i : Int) + 1 := by rw [gI_sI, if_pos ⟨rfl, rfl⟩]
    have H'' := H'
    obtain ⟨⟨j1, j2, j3, j4⟩, ⟨j5, j6, j7⟩, -, -, -, -⟩ := H''
    by_cases l4 : fL w = 4 ∨ fL w = 7
    · rw [if_pos l4] at hw
      have em : mxS (sI σ 80 88 ((i : Int) + 1)) S w = sI σ 80 88 ((i : Int) + 1) := if_neg (by clear w1; omega)
      have un : stpJ E S i w w2 t = wayJ (aluV S w t).1 (gI (sI σ 80 88 ((i : Int) + 1)) 80 88) (wV S (dR w) (aluV S w t).2.1) (aluV S w t).2.2 := by
        rw [g88]
        unfold stpJ
        rw [if_neg l0, if_pos l4]
      rw [em, un]
      have t9 := T499 j1 j2 hw l4 j5 j6 j7
      rcases l4 with l4 | l4
      · simp only [e495_73, e495_90, Option.getD_some, Option.bind_some, Option.toList_some, Option.toList_none, List.cons_append, List.nil_append, and_self, and_true, true_and, false_and, and_false, ite_self, not_true_eq_false, not_false_eq_true, reduceIte, Nat.reduceEqDiff, ab_I, ab_L, ab_R, ao_I, ao_L, ao_R, gL_sL, gI_sI, gR_sR, gI_sL, gI_sR, gL_sI, gL_sR, gR_sI, gR_sL, o24, ha, w1, m7, l4, Int.reduceEq]
        refine okc_b t9 fun τ q => ?_
        simp only [Option.toList_none, List.nil_append, e495_158, e495_176]
        exact okc_s (jwo_w q)
      · simp only [e495_73, e495_90, Option.getD_some, Option.bind_some, Option.toList_some, Option.toList_none, List.cons_append, List.nil_append, and_self, and_true, true_and, false_and, and_false, ite_self, not_true_eq_false, not_false_eq_true, reduceIte, Nat.reduceEqDiff, ab_I, ab_L, ab_R, ao_I, ao_L, ao_R, gL_sL, gI_sI, gR_sR, gI_sL, gI_sR, gL_sI, gL_sR, gR_sI, gR_sL, o24, ha, w1, m7, l4, Int.reduceEq]
        refine okc_b t9 fun τ q => ?_
        simp only [Option.toList_none, List.nil_append, e495_158, e495_176]
        exact okc_s (jwo_w q)
    · rw [if_neg l4] at hw
      by_cases l5 : fL w = 5 ∨ fL w = 6
      · rw [if_pos l5] at hw
        have t5 := T515 (w2 := w2) H' hE ha' g88 hi l5 hw (hg l5)
        rcases l5 with l5 | l5
        · simp only [e495_73, e495_90, Option.getD_some, Option.bind_some, Option.toList_some, Option.toList_none, List.cons_append, List.nil_append, and_self, and_true, true_and, false_and, and_false, ite_self, not_true_eq_false, not_false_eq_true, reduceIte, Nat.reduceEqDiff, ab_I, ab_L, ab_R, ao_I, ao_L, ao_R, gL_sL, gI_sI, gR_sR, gI_sL, gI_sR, gL_sI, gL_sR, gR_sI, gR_sL, o24, ha, w1, m7, l5, Int.reduceEq]
          refine okc_b t5 fun τ q => ?_
          simp only [Option.toList_none, List.nil_append, e495_167, e495_176]
          exact okc_s q
        · simp only [e495_73, e495_90, Option.getD_some, Option.bind_some, Option.toList_some, Option.toList_none, List.cons_append, List.nil_append, and_self, and_true, true_and, false_and, and_false, ite_self, not_true_eq_false, not_false_eq_true, reduceIte, Nat.reduceEqDiff, ab_I, ab_L, ab_R, ao_I, ao_L, ao_R, gL_sL, gI_sI, gR_sR, gI_sL, gI_sR, gL_sI, gL_sR, gR_sI, gR_sL, o24, ha, w1, m7, l5, Int.reduceEq]
          refine okc_b t5 fun τ q => ?_
          simp only [Option.toList_none, List.nil_append, e495_167, e495_176]
          exact okc_s q
      · rw [if_neg l5] at hw
        have em : mxS (sI σ 80 88 ((i : Int) + 1)) S w = sI σ 80 88 ((i : Int) + 1) := if_neg (by clear w1; omega)
        have l3 : fL w = 1 ∨ fL w = 2 ∨ fL w = 3 := by clear w1; omega
        have t9 := T509 j1 j2 j3 j4 hw l3 j5 j6
        have un : ∀ τ, (if fL w = 1 then jpo (sI σ 80 88 ((i : Int) + 1)) τ (lodV E S w).1 (wV S (dR w) (lodV E S w).2) (gI (sI σ 80 88 ((i : Int) + 1)) 80 88) (gI (sI σ 80 88 ((i : Int) + 1)) 80 89) t
            else if fL w = 3 ∧ fM w = 192 then jpo (sI σ 80 88 ((i : Int) + 1)) τ (swpV E S w).1 (swpV E S w).2 (gI (sI σ 80 88 ((i : Int) + 1)) 80 88) (gI (sI σ 80 88 ((i : Int) + 1)) 80 89) t
            else jpo (sI σ 80 88 ((i : Int) + 1)) τ (stoV E S w).1 (stoV E S w).2 (gI (sI σ 80 88 ((i : Int) + 1)) 80 88) (gI (sI σ 80 88 ((i : Int) + 1)) 80 89) t) → jwo (sI σ 80 88 ((i : Int) + 1)) τ N K l (stpJ E S i w w2 t) := fun τ q => by
          unfold stpJ
          rw [if_neg l0, if_neg l4, if_neg l5, ← g88]
          by_cases l1 : fL w = 1
          · rw [if_pos l1] at q ⊢
            exact jwo_w q
          · rw [if_neg l1] at q ⊢
            by_cases c : fL w = 3 ∧ fM w = 192
            · rw [if_pos c] at q ⊢
              exact jwo_w q
            · rw [if_neg c] at q ⊢
              exact jwo_w q
        rw [em]
        have go : okc (MM 509 [mR (some 80), mL w, mI (fOp w)] (sI σ 80 88 ((i : Int) + 1))) none (fun τ => jwo (sI σ 80 88 ((i : Int) + 1)) τ N K l (stpJ E S i w w2 t)) := okc_m t9 un
        clear un t9
        rcases l3 with l3 | l3 | l3
        · simp only [e495_73, e495_90, Option.getD_some, Option.bind_some, Option.toList_some, Option.toList_none, List.cons_append, List.nil_append, and_self, and_true, true_and, false_and, and_false, ite_self, not_true_eq_false, not_false_eq_true, reduceIte, Nat.reduceEqDiff, ab_I, ab_L, ab_R, ao_I, ao_L, ao_R, gL_sL, gI_sI, gR_sR, gI_sL, gI_sR, gL_sI, gL_sR, gR_sI, gR_sL, o24, ha, w1, m7, l3, Int.reduceEq]
          refine okc_b go fun τ q => ?_
          simp only [Option.toList_none, List.nil_append, e495_176]
          exact okc_s q
        · simp only [e495_73, e495_90, Option.getD_some, Option.bind_some, Option.toList_some, Option.toList_none, List.cons_append, List.nil_append, and_self, and_true, true_and, false_and, and_false, ite_self, not_true_eq_false, not_false_eq_true, reduceIte, Nat.reduceEqDiff, ab_I, ab_L, ab_R, ao_I, ao_L, ao_R, gL_sL, gI_sI, gR_sR, gI_sL, gI_sR, gL_sI, gL_sR, gR_sI, gR_sL, o24, ha, w1, m7, l3, Int.reduceEq]
          refine okc_b go fun τ q => ?_
          simp only [Option.toList_none, List.nil_append, e495_176]
          exact okc_s q
        · simp only [e495_73, e495_90, Option.getD_some, Option.bind_some, Option.toList_some, Option.toList_none, List.cons_append, List.nil_append, and_self, and_true, true_and, false_and, and_false, ite_self, not_true_eq_false, not_false_eq_true, reduceIte, Nat.reduceEqDiff, ab_I, ab_L, ab_R, ao_I, ao_L, ao_R, gL_sL, gI_sI, gR_sR, gI_sL, gI_sR, gL_sI, gL_sR, gR_sI, gR_sL, o24, ha, w1, m7, l3, Int.reduceEq]
          refine okc_b go fun τ q => ?_
          simp only [Option.toList_none, List.nil_append, e495_176]
          exact okc_s q
end STW
