-- FILE 99d.cend
/-! ===== the class's walk: its cells; a way ends (endWay) ===== -/
def isCl (c : Nat) : Prop := c = 62 ∨ c = 66 ∨ 153 ≤ c
/-- the places that hold states: here, spare, kept, waiting -/
def slR (σ : MS) (s : Nat) : Option Nat := if s = 0 then gR σ 39 14 else if s = 1 then gR σ 39 15 else if s < 252 then gR σ 58 (s - 2) else gR σ 59 (s - 252)
/-- each state is in one place, and has its own cells -/
def POOL (σ : MS) : Prop := (∀ s c, s < 312 → slR σ s = some c → isSt σ c ∧ isCl c) ∧ ∀ s s' c c', s < 312 → s' < 312 → ¬ s = s' → slR σ s = some c → slR σ s' = some c' → c + 3 < c' ∨ c' + 3 < c
section CEND
variable {τ σ ρ : MS} {cf wf : Nat → Nat} {K : Nat → KT} {N M k j hc : Nat} {D : Nat → Bool} {S : ST} {E : EV} {t n F C : Int}
theorem cl_s {c : Nat} (h : isCl c) : stC c := by
  unfold isCl at h
  show c = 62 ∨ c = 66 ∨ 153 ≤ c
  omega
theorem sR_z : slR σ 0 = gR σ 39 14 := rfl
theorem sR_o : slR σ 1 = gR σ 39 15 := rfl
theorem sR_kp (h : k < 250) : slR σ (2 + k) = gR σ 58 k := by
  unfold slR
  rw [if_neg (by omega), if_neg (by omega), if_pos (by omega), Nat.add_sub_cancel_left]
theorem sR_wt : slR σ (252 + k) = gR σ 59 k := by
  unfold slR
  rw [if_neg (by omega), if_neg (by omega), if_neg (by omega), Nat.add_sub_cancel_left]
theorem po_KD (h : POOL σ) (hN : N ≤ 250) (hk : ∀ k, k < N → gR σ 58 k = some (cf k)) : KD cf N := fun k k' h1 h2 e => h.2 (2 + k) (2 + k') (cf k) (cf k') (by omega) (by omega) (by omega) ((sR_kp (by omega)).trans (hk k h1)) ((sR_kp (by omega)).trans (hk k' h2))
/-- how many cells were made: C and four for each place that holds one -/
def PCN (σ : MS) (C : Int) : Prop := (∀ s c, s < 312 → slR σ s = some c → c + 3 < nC σ) ∧ 153 ≤ nC σ ∧ (nC σ : Int) ≤ C + 4 * cnt 312 (fun s => (slR σ s).isSome) ∧ C ≤ 900000
/-- a place's cell was in a place before, or is new -/
def pgr (τ σ : MS) : Prop := nC σ ≤ nC τ ∧ ∀ s c, s < 312 → slR τ s = some c → nC σ ≤ c ∨ ∃ s', s' < 312 ∧ slR σ s' = some c
/-- no cell of a place -/
def oth (σ : MS) (q : Nat) : Prop := (q < nC σ ∨ 1000000 ≤ q) ∧ ∀ s c, s < 312 → slR σ s = some c → ¬ (c ≤ q ∧ q < c + 4)
theorem pn_lt (h : PCN σ C) : nC σ + 4 ≤ 1000000 := by
  obtain ⟨_, _, h3, h4⟩ := h
  have := cnt_le (fun s => (slR σ s).isSome) 312
  omega
theorem pgr_r (σ : MS) : pgr σ σ := ⟨Nat.le_refl _, fun s c hs e => Or.inr ⟨s, hs, e⟩⟩
theorem pgr_t {a b c : MS} (h1 : pgr a b) (h2 : pgr b c) : pgr a c := ⟨Nat.le_trans h2.1 h1.1, fun s x hs e => by
  rcases h1.2 s x hs e with l | ⟨s', hs', e'⟩
  · exact Or.inl (Nat.le_trans h2.1 l)
  · exact h2.2 s' x hs' e'⟩
theorem pgr_o {q : Nat} (g : pgr τ σ) (pn : PCN τ C) (h : oth σ q) : oth τ q := by
  refine ⟨?_, fun s c hs e => ?_⟩
  · have := g.1
    rcases h.1 with l | l
    · exact Or.inl (by omega)
    · exact Or.inr l
  · rcases g.2 s c hs e with l | ⟨s', hs', e'⟩
    · have := pn.1 s c hs e
      have := pn_lt pn
      have := h.1
      omega
    · exact h.2 s' c hs' e'
theorem nC_e (e : τ.2.2.2 = σ.2.2.2) : nC τ = nC σ := by
  unfold nC
  rw [e]
/-- the same places hold the same -/
theorem po_id (h : POOL σ) (e : ∀ s, s < 312 → slR τ s = slR σ s) (ek : τ.2.2.2 = σ.2.2.2) : POOL τ ∧ (∀ C, PCN σ C → PCN τ C) ∧ pgr τ σ := by
  have en := nC_e ek
  refine ⟨⟨fun s c hs q => ?_, fun s s' c c' hs hs' ne q q' => ?_⟩, fun C pn => ⟨fun s c hs q => ?_, ?_, ?_, pn.2.2.2⟩, ⟨?_, fun s c hs q => ?_⟩⟩
  · rw [e s hs] at q
    obtain ⟨y1, y2⟩ := h.1 _ _ hs q
    exact ⟨st_r3 ek y1, y2⟩
  · rw [e s hs] at q
    rw [e s' hs'] at q'
    exact h.2 _ _ _ _ hs hs' ne q q'
  · rw [e s hs] at q
    rw [en]
    exact pn.1 _ _ hs q
  · rw [en]
    exact pn.2.1
  · rw [en, cnt_ext (p := fun s => (slR τ s).isSome) (q := fun s => (slR σ s).isSome) 312 (fun j hj => by rw [e j hj])]
    exact pn.2.2.1
  · rw [en]
    exact Nat.le_refl _
  · rw [e s hs] at q
    exact Or.inr ⟨s, hs, q⟩
/-- two places change what they hold -/
theorem po_sw2 {a b x y : Nat} (h : POOL σ) (ha : a < 312) (hb : b < 312) (hab : ¬ a = b) (e : ∀ s, s < 312 → ¬ s = a → ¬ s = b → slR τ s = slR σ s) (sa : slR σ a = some x) (sb : slR σ b = some y) (ea : slR τ a = some y) (eb : slR τ b = some x) (ek : τ.2.2.2 = σ.2.2.2) : POOL τ ∧ (∀ C, PCN σ C → PCN τ C) ∧ pgr τ σ := by
  have en := nC_e ek
  have sw : ∀ s, s < 312 → slR τ s = slR σ (if s = a then b else if s = b then a else s) := fun s hs => by
    by_cases s0 : s = a
    · rw [if_pos s0, s0, ea, sb]
    · rw [if_neg s0]
      by_cases s1 : s = b
      · rw [if_pos s1, s1, eb, sa]
      · rw [if_neg s1]
        exact e s hs s0 s1
  have lt : ∀ s, s < 312 → (if s = a then b else if s = b then a else s) < 312 := fun s hs => by
    split
    · omega
    · split <;> omega
  have inj : ∀ s s', (if s = a then b else if s = b then a else s) = (if s' = a then b else if s' = b then a else s') → s = s' := fun s s' q => by
    by_cases a1 : s = a
    · by_cases a2 : s' = a
      · omega
      · rw [if_pos a1, if_neg a2] at q
        by_cases b2' : s' = b
        · rw [if_pos b2'] at q
          omega
        · rw [if_neg b2'] at q
          omega
    · rw [if_neg a1] at q
      by_cases b1 : s = b
      · rw [if_pos b1] at q
        by_cases a2 : s' = a
        · rw [if_pos a2] at q
          omega
        · rw [if_neg a2] at q
          by_cases b2' : s' = b
          · omega
          · rw [if_neg b2'] at q
            omega
      · rw [if_neg b1] at q
        by_cases a2 : s' = a
        · rw [if_pos a2] at q
          omega
        · rw [if_neg a2] at q
          by_cases b2' : s' = b
          · rw [if_pos b2'] at q
            omega
          · rw [if_neg b2'] at q
            exact q
  have sm : ∀ s, s < 312 → (slR τ s).isSome = (slR σ s).isSome := fun s hs => by
    by_cases s0 : s = a
    · rw [s0, ea, sa]
      rfl
    · by_cases s1 : s = b
      · rw [s1, eb, sb]
        rfl
      · rw [e s hs s0 s1]
  refine ⟨⟨fun s c hs q => ?_, fun s s' c c' hs hs' ne q q' => ?_⟩, fun C pn => ⟨fun s c hs q => ?_, ?_, ?_, pn.2.2.2⟩, ⟨?_, fun s c hs q => ?_⟩⟩
  · rw [sw s hs] at q
    obtain ⟨y1, y2⟩ := h.1 _ _ (lt s hs) q
    exact ⟨st_r3 ek y1, y2⟩
  · rw [sw s hs] at q
    rw [sw s' hs'] at q'
    exact h.2 _ _ _ _ (lt s hs) (lt s' hs') (fun z => ne (inj _ _ z)) q q'
  · rw [sw s hs] at q
    rw [en]
    exact pn.1 _ _ (lt s hs) q
  · rw [en]
    exact pn.2.1
  · rw [en, cnt_ext (p := fun s => (slR τ s).isSome) (q := fun s => (slR σ s).isSome) 312 sm]
    exact pn.2.2.1
  · rw [en]
    exact Nat.le_refl _
  · rw [sw s hs] at q
    exact Or.inr ⟨_, lt s hs, q⟩
/-- a place gets a new cell -/
theorem po_gen {π : Nat → Nat} {a : Nat} (h : POOL σ) (pn : PCN σ C) (hπ : ∀ s, s < 312 → π s < 312) (hi : ∀ s s', s < 312 → s' < 312 → ¬ s = a → ¬ s' = a → π s = π s' → s = s') (e : ∀ s, s < 312 → ¬ s = a → slR τ s = slR σ (π s)) (ea : slR τ a = some (nC σ)) (kn : nC τ = nC σ + 4) (kr : ∀ q, ¬ (nC σ ≤ q ∧ q < nC σ + 4) → kd τ q = kd σ q) (sn : isSt τ (nC σ)) (ct : cnt 312 (fun s => (slR τ s).isSome) = cnt 312 (fun s => (slR σ s).isSome) + 1) : POOL τ ∧ PCN τ C ∧ pgr τ σ := by
  have old : ∀ s c, s < 312 → ¬ s = a → slR τ s = some c → c + 3 < nC σ ∧ isSt τ c ∧ isCl c := fun s c hs hn q => by
    rw [e s hs hn] at q
    have l := pn.1 _ _ (hπ s hs) q
    obtain ⟨y1, y2⟩ := h.1 _ _ (hπ s hs) q
    refine ⟨l, ?_, y2⟩
    unfold isSt at y1 ⊢
    rw [kr c (by omega), kr (c + 1 + 0) (by omega), kr (c + 1 + 1) (by omega), kr (c + 1 + 2) (by omega)]
    exact y1
  refine ⟨⟨fun s c hs q => ?_, fun s s' c c' hs hs' ne q q' => ?_⟩, ⟨fun s c hs q => ?_, ?_, ?_, pn.2.2.2⟩, ⟨by omega, fun s c hs q => ?_⟩⟩
  · by_cases sa : s = a
    · rw [sa, ea] at q
      rw [← Option.some.inj q]
      exact ⟨sn, Or.inr (Or.inr pn.2.1)⟩
    · exact (old s c hs sa q).2
  · by_cases sa : s = a
    · rw [sa, ea] at q
      have q := Option.some.inj q
      have := (old s' c' hs' (fun z => ne (by omega)) q').1
      omega
    · have l1 := (old s c hs sa q).1
      by_cases sb : s' = a
      · rw [sb, ea] at q'
        have q' := Option.some.inj q'
        omega
      · rw [e s hs sa] at q
        rw [e s' hs' sb] at q'
        exact h.2 _ _ _ _ (hπ s hs) (hπ s' hs') (fun z => ne (hi s s' hs hs' sa sb z)) q q'
  · by_cases sa : s = a
    · rw [sa, ea] at q
      have q := Option.some.inj q
      omega
    · have := (old s c hs sa q).1
      omega
  · have := pn.2.1
    omega
  · have := pn.2.2.1
    rw [ct]
    omega
  · by_cases sa : s = a
    · rw [sa, ea] at q
      have q := Option.some.inj q
      exact Or.inl (by omega)
    · rw [e s hs sa] at q
      exact Or.inr ⟨_, hπ s hs, q⟩
theorem po_sw {m wm : Nat} (h : POOL σ) (hm : m < 60) (h0 : gR σ 39 14 = some hc) (h1 : gR σ 59 m = some wm) (e : ∀ q s, ¬ (q = 39 ∧ s = 14) → ¬ (q = 59 ∧ s = m) → gR τ q s = gR σ q s) (e0 : gR τ 39 14 = some wm) (e1 : gR τ 59 m = some hc) (ek : τ.2.2.2 = σ.2.2.2) : POOL τ ∧ (∀ C, PCN σ C → PCN τ C) ∧ pgr τ σ :=
  po_sw2 (a := 0) (b := 252 + m) h (by decide) (by omega) (by omega) (fun s hs s0 s1 => by
    unfold slR
    rw [if_neg s0, if_neg s0]
    by_cases a : s = 1
    · rw [if_pos a, if_pos a]
      exact e _ _ (by omega) (by omega)
    · rw [if_neg a, if_neg a]
      by_cases b : s < 252
      · rw [if_pos b, if_pos b]
        exact e _ _ (by omega) (by omega)
      · rw [if_neg b, if_neg b]
        exact e _ _ (by omega) (by omega)) (sR_z.trans h0) (sR_wt.trans h1) (sR_z.trans e0) (sR_wt.trans e1) ek
/-- what the end of a way may change, beside what is kept -/
def ewq (τ σ : MS) (cf : Nat → Nat) (N m : Nat) : Prop := (∀ q s, (¬ (s = 9 ∨ s = 10) ∨ ∀ k, k < N → ¬ q = cf k) → ¬ (q = 39 ∧ s = 11) → ¬ (q = 51 ∧ s = 3) → gI τ q s = gI σ q s) ∧ (∀ q s, gL τ q s = gL σ q s) ∧ (∀ q s, ¬ (q = 39 ∧ s = 14) → ¬ (q = 59 ∧ s = m) → gR τ q s = gR σ q s) ∧ τ.2.2.2 = σ.2.2.2
/-- a way ends, and another one waits -/
theorem T39w {w : WK} {m : Nat} (df : dfI w) (po : POOL σ) (h14 : gR σ 39 14 = some hc) (hk : ∀ k, k < yNn w → gR σ 58 k = some (cf k)) (eM : yM w = m + 1) (h59 : gR σ 59 m = some (wf m)) (hK : KC σ cf (yH w) (yNn w) D) (hD : ∀ x, x < yNn w → (D x = true ↔ ¬ x ∈ cha (yH w) (yK w)))
    (h6 : gR σ hc 6 = some (cf (yK w))) (h7 : gI σ hc 7 = F) (hB : KB (yH w) (yNn w) C) (hC : 0 ≤ C ∧ C ≤ 50000) (hF : 0 ≤ F + n ∧ F + n ≤ C + 4000) (h11 : gI σ 39 11 = (yM w : Int)) (hw6 : gR σ (wf m) 6 = some (cf (yW w m).2.2.1)) :
    okc (MM 39 [mR (some 39), mI n] σ) (some (mI 1)) (fun τ => (∃ D1, KC τ cf (endK (yH w) (yK w) (F + n)) (yNn w) D1 ∧ ∀ x, x < yNn w → (D1 x = true ↔ ¬ x ∈ cha (endK (yH w) (yK w) (F + n)) (yW w m).2.2.1)) ∧ (POOL τ ∧ (∀ C, PCN σ C → PCN τ C) ∧ pgr τ σ) ∧ (gR τ 39 14 = some (wf m) ∧ gR τ 59 m = some hc ∧ gI τ 39 11 = (m : Int)) ∧ ewq τ σ cf (yNn w) m) := by
  have N250 := df.2.1.2.1
  have m60 := df.2.1.2.2
  have yk := df.2.1.1
  have hd := po_KD po N250 hk
  have sh := (po.1 0 hc (by decide) (sR_z.trans h14))
  have swm := po.1 (252 + m) (wf m) (by omega) (sR_wt.trans h59)
  have neq : ∀ k, k < yNn w → ¬ cf k = hc ∧ ¬ cf k = wf m ∧ ¬ cf k = 39 := fun k hk' => by
    have s1 : slR σ (2 + k) = some (cf k) := (sR_kp (by omega)).trans (hk k hk')
    have c1 := (po.1 _ _ (by omega) s1).2
    have d1 := po.2 (2 + k) 0 _ _ (by omega) (by decide) (by omega) s1 (sR_z.trans h14)
    have d2 := po.2 (2 + k) (252 + m) _ _ (by omega) (by omega) (by omega) s1 (sR_wt.trans h59)
    unfold isCl at c1
    omega
  have ch : isCl hc := sh.2
  have cw : isCl (wf m) := swm.2
  have nh : ¬ hc = 39 ∧ ¬ wf m = 39 := by
    unfold isCl at ch cw
    omega
  obtain ⟨⟨k1, kc⟩, k2, ⟨k5, k7, k9, k10⟩, k6⟩ := hK (yK w) yk
  have lL := df.2.2.2.1 m (by omega)
  -- the longest
  have K1 := KC_l (n := F + n) hd hK yk
  obtain ⟨σ1, e1⟩ : ∃ σ1, σ1 = sI σ (cf (yK w)) 9 (if kL (yH w (yK w)) < F + n then F + n else kL (yH w (yK w))) := ⟨_, rfl⟩
  rw [← e1] at K1
  have q1 : kcq σ1 σ cf (yNn w) := by rw [e1]; exact kcq_i yk (Or.inl rfl)
  have i11 : gI σ1 39 11 = (yM w : Int) := (q1.1 _ _ (Or.inl (by omega))).trans h11
  obtain ⟨σ2, e2⟩ : ∃ σ2, σ2 = sI σ1 39 11 (m : Int) := ⟨_, rfl⟩
  have K2 : KC σ2 cf (ovrK (yH w) (yK w) (F + n)) (yNn w) D := fun x hx => by
    obtain ⟨⟨a1, ac⟩, a2, ⟨a5, a7, a9, a10⟩, a6⟩ := K1 x hx
    have nx := (neq x hx).2.2
    have g : ∀ q s, ¬ q = 39 → gI σ2 q s = gI σ1 q s := fun q s h => by rw [e2, gI_sI, if_neg (fun z => h z.1)]
    refine ⟨⟨by rw [e2]; exact a1, ac⟩, CSt_q (fun s => g _ _ nx) (fun s => g _ _ (by omega)) (fun s => g _ _ (by omega)) (fun s => by rw [e2]; rfl) a2, ⟨(g _ _ nx).trans a5, (g _ _ nx).trans a7, (g _ _ nx).trans a9, (g _ _ nx).trans a10⟩, by rw [e2]; exact a6⟩
  have r2 : ∀ q s, gR σ2 q s = gR σ q s := fun q s => by
    rw [e2]
    show gR σ1 q s = gR σ q s
    rw [e1]
    rfl
  have st2 : isSt σ2 hc := by rw [e2, e1]; exact sh.1
  have B1 := ov_B hB yk hF hC.1
  obtain ⟨τ2, t40, K3, q3⟩ := T40 (u := some (yW w m).2.2.1) hd N250 (fun R e => by rw [← Option.some.inj e]; exact lL) K2 B1 yk (by omega) ((r2 _ _).trans h14) st2 ((r2 _ _).trans h6)
  have lu : lstW (yW w) (yM w) = some (yW w m).2.2.1 := by rw [eM]; rfl
  have ec := end_c (n := F + n) df
  rw [lu] at ec
  rw [← ec] at K3
  have r3 : ∀ q s, gR τ2 q s = gR σ q s := fun q s => by
    show τ2.2.2.1 q s = _
    rw [q3.2]
    exact r2 q s
  have l3 : ∀ q s, gL τ2 q s = gL σ q s := fun q s => by
    show τ2.2.1 q s = _
    rw [q3.2, e2, e1]
    rfl
  have d3 : τ2.2.2.2 = σ.2.2.2 := by rw [q3.2, e2, e1]; rfl
  have g11 : gI τ2 39 11 = (m : Int) := by
    rw [q3.1 _ _ (Or.inl (by omega)), e2, gI_sI, if_pos ⟨rfl, rfl⟩]
  obtain ⟨τ, eτ⟩ : ∃ τ, τ = sR (sR τ2 59 m (some hc)) 39 14 (some (wf m)) := ⟨_, rfl⟩
  have rτ : ∀ q s, ¬ (q = 39 ∧ s = 14) → ¬ (q = 59 ∧ s = m) → gR τ q s = gR σ q s := fun q s h1 h2 => by
    rw [eτ, gR_sR, if_neg h1, gR_sR, if_neg h2, r3]
  have r0 : gR τ 39 14 = some (wf m) := by rw [eτ, gR_sR, if_pos ⟨rfl, rfl⟩]
  have rm : gR τ 59 m = some hc := by rw [eτ, gR_sR, if_neg (by omega), gR_sR, if_pos ⟨rfl, rfl⟩]
  have dτ : τ.2.2.2 = σ.2.2.2 := by rw [eτ]; exact d3
  have iτ : ∀ q s, gI τ q s = gI τ2 q s := fun q s => by rw [eτ]; rfl
  refine okc_o (τ := τ) ?_ ⟨⟨dnc 250 (ovrK (yH w) (yK w) (F + n)) (yK w) (some (yW w m).2.2.1) D, fun x hx => ?_, fun x hx => ?_⟩, po_sw po (by omega) h14 h59 rτ r0 rm dτ, ⟨r0, rm, (iτ _ _).trans g11⟩, fun q s p1 p2 p3 => ?_, fun q s => ?_, rτ, dτ⟩
  · have a14 : ao σ 8 (some hc) := of_eq_true (aoS sh.1)
    have aK : ao σ 8 (some (cf (yK w))) := of_eq_true (aoS k1)
    have aK1 : ao σ 8 (some (cf (yK w))) = True := aoS k1
    have aw : ao σ1 8 (some (wf m)) := by rw [e1]; exact of_eq_true (aoS swm.1)
    have ww : w32 (F + n) = F + n := w32_i (by omega) (by omega)
    have eM1 : (yM w : Int) - 1 = (m : Int) := by omega
    have wm : w32 ((yM w : Int) - 1) = (m : Int) := by rw [eM1]; exact w32_i (by omega) (by omega)
    have nM : ¬ (yM w : Int) = 0 := by omega
    have g59 : Option.isSome (some 59) = true ∧ ab σ1 5 59 (m : Int) := by rw [g_59]; omega
    have g59' : Option.isSome (some 59) = true ∧ ab τ2 5 59 (m : Int) := by rw [g_59]; omega
    have gw1 : gR σ1 59 m = some (wf m) := by rw [e1]; exact h59
    have gw6 : gR σ2 (wf m) 6 = some (cf (yW w m).2.2.1) := (r2 _ _).trans hw6
    rw [M39, e39_0, h14, if_pos a14, Option.getD_some, h6, if_neg (by show ¬ true = false; decide), if_pos aK, if_pos a14, Option.getD_some, k9, h7, ww, T570]
    show RR (lkB tb39) (B39_29, [some (mR (some 39)), some (mI n), some (mR (some (cf (yK w)))), none], [mI (if kL (yH w (yK w)) < F + n then F + n else kL (yH w (yK w))), mR (some (cf (yK w)))], σ) = _
    rw [e39_29, if_pos aK, Option.getD_some, ← e1, e39_32, i11, if_pos nM, wm, if_pos g59, Int.toNat_natCast, gw1, e39_54, if_pos (show Option.isSome (some (wf m)) = true from rfl), if_pos aw, i11, wm, ← e2, Option.getD_some, gw6]
    rw [show (some (cf (yW w m).2.2.1) : Option Nat) = (some (yW w m).2.2.1).map cf from rfl, t40]
    show RR (lkB tb39) (B39_112, [some (mR (some 39)), some (mI n), some (mR (some (cf (yK w)))), some (mR (some (wf m)))], [], τ2) = _
    have k28 : ∀ c, isSt σ c → (kd τ2 c).1 = 28 := fun c hc' => by rw [kd_r3 d3, hc'.1]
    have aq1 : (Option.isSome (some 59) = true ∧ ab τ2 5 59 (m : Int)) ∧ aq τ2 5 (some hc) := ⟨g59', fun _ => k28 hc sh.1⟩
    have ak1 : ao τ2 0 (some 39) ∧ ak τ2 2 (some (wf m)) := ⟨⟨rfl, by rw [kd_r3 d3]; rfl⟩, fun _ => k28 _ swm.1⟩
    rw [e39_112, g11, r3 39 14, h14, if_pos aq1, if_pos ak1, Int.toNat_natCast, eτ]
  · obtain ⟨⟨a1, ac⟩, a2, ⟨a5, a7, a9, a10⟩, a6⟩ := K3 x hx
    have nx := (neq x hx).2.2
    refine ⟨⟨st_r3 (by rw [dτ, d3]) a1, ac⟩, CSt_q (fun s => iτ _ _) (fun s => iτ _ _) (fun s => iτ _ _) (fun s => by rw [eτ]; rfl) a2, ⟨(iτ _ _).trans a5, (iτ _ _).trans a7, (iτ _ _).trans a9, (iτ _ _).trans a10⟩, ?_⟩
    rw [rτ _ _ (fun z => nx z.1) (fun z => by omega), ← r3]
    exact a6
  · have cR : ∀ y, cha (endK (yH w) (yK w) (F + n)) y = cha (ovrK (yH w) (yK w) (F + n)) y := fun y => by
      rw [ec]
      exact chn_e (fun j => clc_B 250 _ _ _ j) _ _
    rw [cR]
    have c0 : ∀ y, cha (ovrK (yH w) (yK w) (F + n)) y = cha (yH w) y := fun y => chn_e (fun j => ovc_B) _ _
    refine dnc_D (wfB_o df.1) 250 (yK w) (yW w m).2.2.1 D yk (by omega) ?_ (fun y hy => ?_) x hx
    · rw [c0]
      have := df.2.2.1
      rw [eM] at this
      exact this.1
    · rw [c0]
      exact hD y hy
  · rw [iτ, q3.1 _ _ p1, e2, gI_sI, if_neg p2]
    exact q1.1 _ _ p1
  · rw [eτ]
    exact l3 q s
end CEND
-- FILE 99e.cfin
/-! ===== the class's walk: the last way ends ===== -/
section CFIN
variable {τ σ ρ : MS} {cf wf : Nat → Nat} {N k j hc : Nat} {D : Nat → Bool} {S : ST} {E : EV} {t n F C : Int}
theorem T39z {w : WK} (df : dfI w) (po : POOL σ) (h14 : gR σ 39 14 = some hc) (hk : ∀ k, k < yNn w → gR σ 58 k = some (cf k)) (eM : yM w = 0) (hK : KC σ cf (yH w) (yNn w) D)
    (h6 : gR σ hc 6 = some (cf (yK w))) (h7 : gI σ hc 7 = F) (hB : KB (yH w) (yNn w) C) (hC : 0 ≤ C ∧ C ≤ 50000) (hF : 0 ≤ F + n ∧ F + n ≤ C + 4000) (h11 : gI σ 39 11 = (yM w : Int)) :
    okc (MM 39 [mR (some 39), mI n] σ) (some (mI 0)) (fun τ => gI τ 51 3 = kL (endK (yH w) (yK w) (F + n) 0) ∧ ewq τ σ cf (yNn w) 60 ∧ ∀ q s, gR τ q s = gR σ q s) := by
  have N250 := df.2.1.2.1
  have yk := df.2.1.1
  have hd := po_KD po N250 hk
  have sh := (po.1 0 hc (by decide) (sR_z.trans h14))
  obtain ⟨⟨k1, kc⟩, k2, ⟨k5, k7, k9, k10⟩, k6⟩ := hK (yK w) yk
  have K1 := KC_l (n := F + n) hd hK yk
  obtain ⟨σ1, e1⟩ : ∃ σ1, σ1 = sI σ (cf (yK w)) 9 (if kL (yH w (yK w)) < F + n then F + n else kL (yH w (yK w))) := ⟨_, rfl⟩
  rw [← e1] at K1
  have q1 : kcq σ1 σ cf (yNn w) := by rw [e1]; exact kcq_i yk (Or.inl rfl)
  have i11 : gI σ1 39 11 = 0 := by
    rw [q1.1 _ _ (Or.inl (by omega)), h11, eM]
    rfl
  have r2 : ∀ q s, gR σ1 q s = gR σ q s := fun q s => by rw [e1]; rfl
  have st2 : isSt σ1 hc := by rw [e1]; exact sh.1
  have B1 := ov_B hB yk hF hC.1
  obtain ⟨τ2, t40, K3, q3⟩ := T40 (u := none) hd N250 (fun R e => by cases e) K1 B1 yk (by omega) ((r2 _ _).trans h14) st2 ((r2 _ _).trans h6)
  have lu : lstW (yW w) (yM w) = none := by rw [eM]; rfl
  have ec := end_c (n := F + n) df
  rw [lu] at ec
  rw [← ec] at K3
  have h0 : 0 < yNn w := by omega
  obtain ⟨⟨z1, zc⟩, z2, ⟨z5, z7, z9, z10⟩, z6⟩ := K3 0 h0
  have r3 : ∀ q s, gR τ2 q s = gR σ q s := fun q s => by
    show τ2.2.2.1 q s = _
    rw [q3.2]
    exact r2 q s
  have l3 : ∀ q s, gL τ2 q s = gL σ q s := fun q s => by
    show τ2.2.1 q s = _
    rw [q3.2, e1]
    rfl
  have d3 : τ2.2.2.2 = σ.2.2.2 := by rw [q3.2, e1]; rfl
  refine okc_o (τ := sI τ2 51 3 (kL (endK (yH w) (yK w) (F + n) 0))) ?_ ⟨by rw [gI_sI, if_pos ⟨rfl, rfl⟩], ⟨fun q s p1 p2 p3 => ?_, l3, fun q s _ _ => r3 q s, d3⟩, r3⟩
  · have a14 : ao σ 8 (some hc) := of_eq_true (aoS sh.1)
    have aK : ao σ 8 (some (cf (yK w))) := of_eq_true (aoS k1)
    have a0 : ao τ2 8 (some (cf 0)) := of_eq_true (aoS z1)
    have g58 : Option.isSome (some 58) = true ∧ ab τ2 5 58 0 := by rw [g_58]; decide
    have g51 : Option.isSome (some 51) = true ∧ ab τ2 3 51 3 := by rw [g_51]; decide
    have k0 : gR τ2 58 (Int.toNat 0) = some (cf 0) := (r3 _ _).trans (hk 0 h0)
    have ww : w32 (F + n) = F + n := w32_i (by omega) (by omega)
    rw [M39, e39_0, h14, if_pos a14, Option.getD_some, h6, if_neg (by show ¬ true = false; decide), if_pos aK, if_pos a14, Option.getD_some, k9, h7, ww, T570]
    show RR (lkB tb39) (B39_29, [some (mR (some 39)), some (mI n), some (mR (some (cf (yK w)))), none], [mI (if kL (yH w (yK w)) < F + n then F + n else kL (yH w (yK w))), mR (some (cf (yK w)))], σ) = _
    rw [e39_29, if_pos aK, Option.getD_some, ← e1, e39_32, i11, if_neg (not_not_intro rfl), e39_54, if_neg (show ¬ Option.isSome (none : Option Nat) = true by decide)]
    rw [show (none : Option Nat) = (none : Option Nat).map cf from rfl, t40]
    show RR (lkB tb39) (B39_64, [some (mR (some 39)), some (mI n), some (mR (some (cf (yK w)))), some (mR none)], [], τ2) = _
    rw [e39_64, if_pos g58, k0, if_pos (show Option.isSome (some (cf 0)) = true from rfl), if_pos g58, if_pos a0, Option.getD_some, z9, e39_91, if_pos g51, Option.getD_some]
    rfl
  · rw [gI_sI, if_neg p3, q3.1 _ _ p1]
    exact q1.1 _ _ p1
end CFIN
-- FILE 99f.calc
/-! ===== a new State (not yet compiled) ===== -/
section CALC
variable {σ : MS} {k s : Nat}
theorem al_I : gI (alS σ) k s = if nC σ ≤ k ∧ k < nC σ + 4 then 0 else gI σ k s := rfl
theorem al_L : gL (alS σ) k s = if nC σ ≤ k ∧ k < nC σ + 4 then 0 else gL σ k s := rfl
theorem al_R : gR (alS σ) k s = if nC σ ≤ k ∧ k < nC σ + 4 then none else gR σ k s := rfl
theorem al_C : nC (alS σ) = nC σ + 4 := rfl
theorem al_kd (h : ¬ (nC σ ≤ k ∧ k < nC σ + 4)) : kd (alS σ) k = kd σ k := by
  have e : (if k = nC σ then ((28, 0) : Nat × Nat) else if k = nC σ + 1 then (4, 1188) else if k = nC σ + 2 then (3, 4) else if k = nC σ + 3 then (3, 64) else σ.2.2.2.2.1 k) = σ.2.2.2.2.1 k := by
    rw [if_neg (by omega), if_neg (by omega), if_neg (by omega), if_neg (by omega)]
  have e' : (alS σ).2.2.2.2.1 k = σ.2.2.2.2.1 k := e
  unfold kd
  rw [e']
  rfl
theorem al_at (h1 : 153 ≤ k) (h2 : k < 1000000) : kd (alS σ) k = if k = nC σ then (28, 0) else if k = nC σ + 1 then (4, 1188) else if k = nC σ + 2 then (3, 4) else if k = nC σ + 3 then (3, 64) else σ.2.2.2.2.1 k := by
  have e1 : strK = 2000000 := rfl
  have e2 : fxN = 153 := rfl
  have e3 : scrK = 1000000 := rfl
  have e4 : strB = 3000000 := rfl
  unfold kd
  rw [if_neg (by omega), if_neg (by omega), if_neg (by omega), if_neg (by omega)]
  rfl
theorem al_st (h1 : 153 ≤ nC σ) (h2 : nC σ + 4 ≤ 1000000) : isSt (alS σ) (nC σ) := by
  refine ⟨?_, ?_, ?_, ?_⟩
  · rw [al_at h1 (by omega), if_pos rfl]
  · rw [al_at (by omega) (by omega), if_neg (by omega), if_pos (by omega)]
  · rw [al_at (by omega) (by omega), if_neg (by omega), if_neg (by omega), if_pos (by omega)]
  · rw [al_at (by omega) (by omega), if_neg (by omega), if_neg (by omega), if_neg (by omega), if_pos (by omega)]
/-- the last before n -/
def lnd (P : Nat → Bool) : Nat → Option Nat
  | 0 => none
  | n + 1 => if P n = true then some n else lnd P n
theorem lnd_b {P : Nat → Bool} : ∀ n : Nat, lnd P n = some k → k < n ∧ P k = true := by
  intro n
  induction n with
  | zero => intro h; cases h
  | succ n ih =>
    intro h
    have h : (if P n = true then some n else lnd P n) = some k := h
    by_cases c : P n = true
    · rw [if_pos c] at h
      have e : n = k := Option.some.inj h
      rw [← e]
      exact ⟨Nat.lt_succ_self _, c⟩
    · rw [if_neg c] at h
      obtain ⟨a, b⟩ := ih h
      exact ⟨Nat.lt_succ_of_lt a, b⟩
theorem lnd_g {P Q : Nat → Bool} : ∀ n : Nat, (∀ j, j < n → P j = Q j) → lnd P n = lnd Q n := by
  intro n
  induction n with
  | zero => intro _; rfl
  | succ n ih =>
    intro h
    show (if P n = true then some n else lnd P n) = (if Q n = true then some n else lnd Q n)
    rw [h n (Nat.lt_succ_self _), ih (fun j hj => h j (Nat.lt_succ_of_lt hj))]
theorem fnd_g {P Q : Nat → Bool} : ∀ f m : Nat, (∀ j, m ≤ j → j < m + f → P j = Q j) → fnd P f m = fnd Q f m := by
  intro f
  induction f with
  | zero => intro m _; rfl
  | succ f ih =>
    intro m h
    show (if P m = true then some m else fnd P f (m + 1)) = (if Q m = true then some m else fnd Q f (m + 1))
    rw [h m (Nat.le_refl _) (by omega), ih (m + 1) (fun j h1 h2 => h j (by omega) (by omega))]
/-- one more at the end -/
theorem fnd_s {P : Nat → Bool} : ∀ f m : Nat, fnd P (f + 1) m = (match fnd P f m with
    | some k => some k
    | none => if P (m + f) = true then some (m + f) else none) := by
  intro f
  induction f with
  | zero => intro m; rfl
  | succ f ih =>
    intro m
    show (if P m = true then some m else fnd P (f + 1) (m + 1)) = (match (if P m = true then some m else fnd P f (m + 1)) with
      | some k => some k
      | none => if P (m + (f + 1)) = true then some (m + (f + 1)) else none)
    by_cases c : P m = true
    · rw [if_pos c, if_pos c]
    · rw [if_neg c, if_neg c, ih (m + 1), show m + 1 + f = m + (f + 1) by omega]
/-- none at all: none is the first, none the last -/
theorem fnd_lnd {P : Nat → Bool} : ∀ n : Nat, (fnd P n 0 = none ↔ lnd P n = none) := by
  intro n
  induction n with
  | zero => exact ⟨fun _ => rfl, fun _ => rfl⟩
  | succ n ih =>
    rw [fnd_s]
    show _ ↔ (if P n = true then some n else lnd P n) = none
    rw [Nat.zero_add]
    cases e : fnd P n 0 with
    | some k =>
      have ne : ¬ lnd P n = none := fun z => by rw [ih.mpr z] at e; cases e
      constructor
      · intro z; cases z
      · intro z
        by_cases c : P n = true
        · rw [if_pos c] at z; cases z
        · rw [if_neg c] at z
          exact absurd z ne
    | none =>
      have l := ih.mp e
      by_cases c : P n = true
      · rw [if_pos c]
        exact ⟨fun z => (by rw [if_pos c] at z; cases z), fun z => (by cases z)⟩
      · rw [if_neg c, l]
        exact ⟨fun _ => rfl, fun _ => if_neg c⟩
end CALC
-- FILE 99g.ckep
/-! ===== the class's walk: a state is kept, its cell ===== -/
section CKEP
variable {τ σ ρ : MS} {cf : Nat → Nat} {N k j hc c : Nat} {S : ST} {C : Int}
theorem st_kd (h : ∀ q, c ≤ q → q < c + 4 → kd τ q = kd σ q) (a : isSt σ c) : isSt τ c := by
  unfold isSt at *
  rw [h c (by omega) (by omega), h (c + 1 + 0) (by omega) (by omega), h (c + 1 + 1) (by omega) (by omega), h (c + 1 + 2) (by omega) (by omega)]
  exact a
/-- but for the cell c and one place of kept, all is as it was -/
def knq (τ σ : MS) (c N : Nat) : Prop := (∀ q s, ¬ (c ≤ q ∧ q < c + 4) → gI τ q s = gI σ q s) ∧ (∀ q s, ¬ (c ≤ q ∧ q < c + 4) → gL τ q s = gL σ q s) ∧ (∀ q s, ¬ (c ≤ q ∧ q < c + 4) → ¬ (q = 58 ∧ s = N) → gR τ q s = gR σ q s) ∧ ∀ q, ¬ (c ≤ q ∧ q < c + 4) → kd τ q = kd σ q
theorem L38a (po : POOL σ) (pn : PCN σ C) (hN : N < 250) (g2 : gI σ 51 2 = (N : Int)) : ∃ ρ c, MM 38 [mR (some 39)] σ = RR (lkB tb38) (B38_29, [some (mR (some 39)), some (mI (N : Int)), none], [], ρ) ∧ (gR ρ 58 N = some c ∧ isSt ρ c ∧ isCl c) ∧ (POOL ρ ∧ PCN ρ C ∧ pgr ρ σ) ∧ knq ρ σ c N ∧ (∀ s, s < 312 → ¬ s = 2 + N → slR ρ s = slR σ s) ∧ (c = nC σ ∨ gR σ 58 N = some c) := by
  have l6 := pn_lt pn
  have g51 : Option.isSome (some 51) = true ∧ ab σ 3 51 2 := by rw [g_51]; decide
  have g58 : Option.isSome (some 58) = true ∧ ab σ 5 58 (N : Int) := by rw [g_58]; omega
  have i2 : gI σ 51 (Int.toNat 2) = (N : Int) := g2
  cases e : gR σ 58 N with
  | some c =>
    have sl : slR σ (2 + N) = some c := (sR_kp hN).trans e
    have q := po.1 _ _ (by omega) sl
    refine ⟨σ, c, ?_, ⟨e, q⟩, ⟨po, pn, pgr_r σ⟩, ⟨fun _ _ _ => rfl, fun _ _ _ => rfl, fun _ _ _ _ => rfl, fun _ _ => rfl⟩, fun _ _ _ => rfl, Or.inr rfl⟩
    rw [M38, e38_0, if_pos g51, i2, if_pos g58, Int.toNat_natCast, e, if_pos (show Option.isSome (some c) = true from rfl)]
  | none =>
    obtain ⟨ρ, hρ⟩ : ∃ ρ, ρ = sR (alS σ) 58 N (some (nC σ)) := ⟨_, rfl⟩
    have kr : ∀ q, ¬ (nC σ ≤ q ∧ q < nC σ + 4) → kd ρ q = kd σ q := fun q h => by
      rw [hρ]
      exact al_kd h
    have p2 := pn.2.1
    have rr : ∀ q s, ¬ (nC σ ≤ q ∧ q < nC σ + 4) → ¬ (q = 58 ∧ s = N) → gR ρ q s = gR σ q s := fun q s h1 h2 => by
      rw [hρ, gR_sR, if_neg h2, al_R, if_neg h1]
    have rn : gR ρ 58 N = some (nC σ) := by rw [hρ, gR_sR, if_pos ⟨rfl, rfl⟩]
    have sn : isSt ρ (nC σ) := by
      rw [hρ]
      exact al_st p2 l6
    have cl : isCl (nC σ) := Or.inr (Or.inr p2)
    have so : ∀ s, s < 312 → ¬ s = 2 + N → slR ρ s = slR σ s := fun s hs hn => by
      unfold slR
      by_cases s0 : s = 0
      · rw [if_pos s0, if_pos s0]
        exact rr _ _ (by omega) (by omega)
      · rw [if_neg s0, if_neg s0]
        by_cases s1 : s = 1
        · rw [if_pos s1, if_pos s1]
          exact rr _ _ (by omega) (by omega)
        · rw [if_neg s1, if_neg s1]
          by_cases s2 : s < 252
          · rw [if_pos s2, if_pos s2]
            exact rr _ _ (by omega) (by omega)
          · rw [if_neg s2, if_neg s2]
            exact rr _ _ (by omega) (by omega)
    have sN : slR ρ (2 + N) = some (nC σ) := (sR_kp hN).trans rn
    have sN0 : slR σ (2 + N) = none := (sR_kp hN).trans e
    have nr : nC ρ = nC σ + 4 := by rw [hρ]; rfl
    have ct : cnt 312 (fun s => (slR ρ s).isSome) = cnt 312 (fun s => (slR σ s).isSome) + 1 := cnt_upd (k := 2 + N) 312 (by omega) (fun j hj hn => by rw [so j hj hn]) (by show (slR ρ (2 + N)).isSome = true; rw [sN]; rfl) (by show (slR σ (2 + N)).isSome = false; rw [sN0]; rfl)
    refine ⟨ρ, nC σ, ?_, ⟨rn, sn, cl⟩, po_gen (π := fun s => s) (a := 2 + N) po pn (fun s hs => hs) (fun s s' _ _ _ _ z => z) so sN nr kr sn ct, ⟨fun q s h => ?_, fun q s h => ?_, rr, kr⟩, so, Or.inl rfl⟩
    · have gn : Option.isSome (some 58) = true ∧ ab (alS σ) 5 58 (N : Int) := ⟨rfl, by
        have := g58.2
        unfold ab at *
        rw [al_kd (by omega)]
        exact this⟩
      have aq1 : (Option.isSome (some 58) = true ∧ ab (alS σ) 5 58 (N : Int)) ∧ aq (alS σ) 5 (some (nC σ)) := ⟨gn, fun _ => by
        show (kd (alS σ) (nC σ)).1 = 28
        rw [(al_st p2 l6).1]⟩
      rw [M38, e38_0, if_pos g51, i2, if_pos g58, Int.toNat_natCast, e, if_neg (show ¬ Option.isSome (none : Option Nat) = true by decide), if_pos aq1, hρ]
    · rw [hρ]
      show gI (alS σ) q s = gI σ q s
      rw [al_I, if_neg h]
    · rw [hρ]
      show gL (alS σ) q s = gL σ q s
      rw [al_L, if_neg h]
end CKEP
-- FILE 99h.ckep2
/-! ===== the class's walk: a state is kept (not yet compiled) ===== -/
section CKEP2
variable {τ σ ρ : MS} {cf : Nat → Nat} {N k j hc c a : Nat} {S : ST} {C : Int}
/-- what keeping may change: the cell c, here's latest and ahead, the lists of a word, how many are kept; x: who was the last there -/
def kpq (τ σ : MS) (c hc N a : Nat) (l : Option Nat) : Prop := (∀ q s, ¬ (c ≤ q ∧ q < c + 4) → ¬ (q = hc ∧ s = 7) → ¬ (q = 51 ∧ s = 2) → gI τ q s = gI σ q s) ∧ (∀ q s, ¬ (c ≤ q ∧ q < c + 4) → gL τ q s = gL σ q s)
  ∧ (∀ q s, ¬ (c ≤ q ∧ q < c + 4) → ¬ (q = 58 ∧ s = N) → ¬ (q = hc ∧ s = 6) → ¬ (q = 61 ∧ s = a) → (l = none → ¬ (q = 60 ∧ s = a)) → (∀ x, l = some x → ¬ (q = x ∧ s = 8)) → gR τ q s = gR σ q s) ∧ ∀ q, ¬ (c ≤ q ∧ q < c + 4) → kd τ q = kd σ q
theorem T38 (po : POOL σ) (pn : PCN σ C) (hN : N < 250) (g2 : gI σ 51 2 = (N : Int)) (h14 : gR σ 39 14 = some hc) (hS : CSt σ hc S) (F : 1 ≤ sF S ∧ sF S ≤ 4) (hH : (sH S).length ≤ 64) (hl : ∀ x, gR σ hc 6 = some x → ∃ k, k < 250 ∧ ¬ k = N ∧ gR σ 58 k = some x) (ha : a < 200) (g5 : gI σ hc 5 = (a : Int)) {l : Option Nat} (g61 : gR σ 61 a = l) (hl2 : ∀ x, l = some x → ∃ k, k < 250 ∧ ¬ k = N ∧ gR σ 58 k = some x) :
    ∃ c, okc (MM 38 [mR (some 39)] σ) none (fun τ => (gR τ 58 N = some c ∧ isSt τ c ∧ isCl c) ∧ (CSt τ c S ∧ (gI τ c 5 = (a : Int) ∧ gI τ c 7 = gI σ hc 7 ∧ gI τ c 9 = 0 ∧ gI τ c 10 = 0) ∧ gR τ c 6 = gR σ hc 6 ∧ gR τ c 8 = none) ∧ (gR τ hc 6 = some c ∧ gI τ hc 7 = 0 ∧ gI τ 51 2 = ((N + 1 : Nat) : Int)) ∧ (gR τ 61 a = some c ∧ (l = none → gR τ 60 a = some c) ∧ ∀ x, l = some x → gR τ x 8 = some c) ∧ kpq τ σ c hc N a l ∧ (POOL τ ∧ PCN τ C ∧ pgr τ σ) ∧ (∀ s, s < 312 → ¬ s = 2 + N → slR τ s = slR σ s) ∧ ∀ s x, s < 312 → ¬ s = 2 + N → slR σ s = some x → c + 3 < x ∨ x + 3 < c) := by
  obtain ⟨ρ, c, s29, ⟨r58, sc, cc⟩, ⟨poρ, pnρ, pgρ⟩, ⟨n1, n2, n3, n4⟩, so, _⟩ := L38a po pn hN g2
  have hz := po.1 0 hc (by decide) (sR_z.trans h14)
  have ch := hz.2
  have h14ρ : gR ρ 39 14 = some hc := by
    have := so 0 (by decide) (by omega)
    rw [sR_z, sR_z] at this
    exact this.trans h14
  have sh : isSt ρ hc := (poρ.1 0 hc (by decide) (sR_z.trans h14ρ)).1
  have slN : slR ρ (2 + N) = some c := (sR_kp hN).trans r58
  have far : ∀ s x, s < 312 → ¬ s = 2 + N → slR σ s = some x → c + 3 < x ∨ x + 3 < c := fun s x hs hn e => poρ.2 (2 + N) s _ _ (by omega) hs (fun z => hn z.symm) slN ((so s hs hn).trans e)
  have dd := far 0 hc (by decide) (by omega) (sR_z.trans h14)
  have cc' := cc
  unfold isCl at cc'
  have ch' := ch
  unfold isCl at ch'
  -- cells of kept states
  have kx : ∀ x, (∃ k, k < 250 ∧ ¬ k = N ∧ gR σ 58 k = some x) → isSt ρ x ∧ isCl x ∧ (c + 3 < x ∨ x + 3 < c) ∧ ¬ x = hc := fun x e => by
    obtain ⟨k, hk, hkN, gk⟩ := e
    have s0 : slR σ (2 + k) = some x := (sR_kp hk).trans gk
    have s1 : slR ρ (2 + k) = some x := (so _ (by omega) (by omega)).trans s0
    have y := poρ.1 _ _ (by omega) s1
    have d := poρ.2 (2 + k) 0 _ _ (by omega) (by decide) (by omega) s1 (sR_z.trans h14ρ)
    exact ⟨y.1, y.2, far _ _ (by omega) (by omega) s0, by omega⟩
  have hSρ : CSt ρ hc S := CSt_q (fun s => n1 _ _ (by omega)) (fun s => n1 _ _ (by omega)) (fun s => n1 _ _ (by omega)) (fun s => n2 _ _ (by omega)) hS
  have r6 : gR ρ hc 6 = gR σ hc 6 := n3 _ _ (by omega) (by omega)
  have hlρ : ak ρ 2 (gR ρ hc 6) := fun z => by
    rw [r6] at z ⊢
    obtain ⟨v, ev⟩ : ∃ v, gR σ hc 6 = some v := Option.isSome_iff_exists.mp z
    rw [ev]
    show (kd ρ v).1 = 28
    rw [(kx v (hl v ev)).1.1]
  obtain ⟨τ1, t11, c1, ⟨c5, c7, c6⟩, d1, d2, d3, d4⟩ := T211 sc sh dd hSρ F hH hlρ
  have kd1 : ∀ q, kd τ1 q = kd ρ q := fun q => kd_r3 d4 q
  have ac : ao τ1 8 (some c) := of_eq_true (aoS (st_r3 d4 sc))
  obtain ⟨σ2, e2⟩ : ∃ σ2, σ2 = sI (sI (sR τ1 c 8 none) c 9 0) c 10 0 := ⟨_, rfl⟩
  have i2 : ∀ q s, ¬ (q = c ∧ (s = 9 ∨ s = 10)) → gI σ2 q s = gI τ1 q s := fun q s h => by
    rw [e2, gI_sI, if_neg (by omega), gI_sI, if_neg (by omega)]
    rfl
  have r2 : ∀ q s, ¬ (q = c ∧ s = 8) → gR σ2 q s = gR τ1 q s := fun q s h => by
    rw [e2]
    show gR (sR τ1 c 8 none) q s = _
    rw [gR_sR, if_neg h]
  have a2 : ∀ x, isSt ρ x → ao σ2 8 (some x) := fun x h => by rw [e2]; exact of_eq_true (aoS (st_r3 d4 h))
  have ig : ∀ q s, ¬ (c ≤ q ∧ q < c + 4) → gI σ2 q s = gI σ q s := fun q s h => by
    rw [i2 _ _ (by omega), d1 _ _ (by omega), n1 _ _ h]
  have rg : ∀ q s, ¬ (c ≤ q ∧ q < c + 4) → ¬ (q = 58 ∧ s = N) → gR σ2 q s = gR σ q s := fun q s h h' => by
    rw [r2 _ _ (by omega), d3 _ _ (by omega), n3 _ _ h h']
  have h14' : gR σ2 39 14 = some hc := (rg _ _ (by omega) (by omega)).trans h14
  have g5' : gI σ2 hc 5 = (a : Int) := (ig _ _ (by omega)).trans g5
  have g61' : gR σ2 61 a = l := (rg _ _ (by omega) (by omega)).trans g61
  have gd61 : Option.isSome (some 61) = true ∧ ab σ2 5 61 (a : Int) := by rw [g_61]; omega
  have gd60 : Option.isSome (some 60) = true ∧ ab σ2 5 60 (a : Int) := by rw [g_60]; omega
  have akc : ak σ2 2 (some c) := fun _ => by
    rw [e2]
    show (kd τ1 c).1 = 28
    rw [kd1, sc.1]
  have aqc : aq σ2 5 (some c) := akc
  have s59 : MM 38 [mR (some 39)] σ = RR (lkB tb38) (B38_59, [some (mR (some 39)), some (mI (N : Int)), some (mR (some c))], [], σ2) := by
    have gd58 : Option.isSome (some 58) = true ∧ ab ρ 5 58 (N : Int) := by rw [g_58]; omega
    have acρ : ao ρ 8 (some c) := of_eq_true (aoS sc)
    have an : ao τ1 8 (some c) ∧ ak τ1 2 none := ⟨ac, fun z => by cases z⟩
    have ab0 : ao τ1 8 (some c) ∧ bl 0 := ⟨ac, Or.inl rfl⟩
    rw [s29, e38_29, if_pos gd58, Int.toNat_natCast, r58, if_pos acρ, h14ρ, t11]
    show RR (lkB tb38) (B38_44, [some (mR (some 39)), some (mI (N : Int)), some (mR (some c))], [], τ1) = _
    rw [e38_44, if_pos an, if_pos ac, if_pos ab0, Option.getD_some, e2]
  have ah : ao σ2 8 (some hc) := a2 hc sh
  -- the list of the word
  obtain ⟨σ3, s106, i3, l3, ⟨k3, kk3⟩, f60, fx, r3⟩ : ∃ σ3, RR (lkB tb38) (B38_59, [some (mR (some 39)), some (mI (N : Int)), some (mR (some c))], [], σ2) = RR (lkB tb38) (B38_106, [some (mR (some 39)), some (mI (N : Int)), some (mR (some c))], [], σ3) ∧ (∀ q s, gI σ3 q s = gI σ2 q s) ∧ (∀ q s, gL σ3 q s = gL σ2 q s) ∧ ((∀ q, kd σ3 q = kd σ2 q) ∧ σ3.2.2.2 = σ2.2.2.2) ∧ (l = none → gR σ3 60 a = some c) ∧ (∀ x, l = some x → gR σ3 x 8 = some c) ∧ ∀ q s, (l = none → ¬ (q = 60 ∧ s = a)) → (∀ x, l = some x → ¬ (q = x ∧ s = 8)) → gR σ3 q s = gR σ2 q s := by
    cases hl' : l with
    | none =>
      refine ⟨sR σ2 60 a (some c), ?_, fun _ _ => rfl, fun _ _ => rfl, ⟨fun _ => rfl, rfl⟩, fun _ => ?_, fun x e => by cases e, fun q s h _ => ?_⟩
      · have g : gR σ2 61 a = none := g61'.trans hl'
        rw [e38_59, h14', if_pos ah, Option.getD_some, g5', if_pos gd61, Int.toNat_natCast, g, if_neg (show ¬ Option.isSome (none : Option Nat) = true by decide), if_pos ah, if_pos ⟨gd60, aqc⟩]
      · rw [gR_sR, if_pos ⟨rfl, rfl⟩]
      · rw [gR_sR, if_neg (h rfl)]
    | some x =>
      have y := kx x (hl2 x hl')
      refine ⟨sR σ2 x 8 (some c), ?_, fun _ _ => rfl, fun _ _ => rfl, ⟨fun _ => rfl, rfl⟩, fun e => by cases e, fun x' e => ?_, fun q s _ h => ?_⟩
      · have g : gR σ2 61 a = some x := g61'.trans hl'
        rw [e38_59, h14', if_pos ah, Option.getD_some, g5', if_pos gd61, Int.toNat_natCast, g, if_pos (show Option.isSome (some x) = true from rfl), if_pos ah, if_pos gd61, if_pos ⟨a2 x y.1, akc⟩, Option.getD_some]
      · rw [← Option.some.inj e, gR_sR, if_pos ⟨rfl, rfl⟩]
      · rw [gR_sR, if_neg (h x rfl)]
  have nx : ∀ x, l = some x → ¬ x = 39 ∧ ¬ x = 58 ∧ ¬ x = hc ∧ ¬ x = 61 ∧ ¬ x = c ∧ ¬ x = 59 := fun x e => by
    have y := kx x (hl2 x e)
    have z := y.2.1
    unfold isCl at z
    omega
  have h14'' : gR σ3 39 14 = some hc := (r3 _ _ (fun _ => by omega) (fun x e => by have := nx x e; omega)).trans h14'
  have g5'' : gI σ3 hc 5 = (a : Int) := (i3 _ _).trans g5'
  have ah3 : ao σ3 8 (some hc) := ⟨rfl, by show (kd σ3 hc).1 = 28; rw [k3]; exact ah.2⟩
  have akc3 : ak σ3 2 (some c) := fun z => by
    show (kd σ3 c).1 = 28
    rw [k3]
    exact akc z
  have gd61' : Option.isSome (some 61) = true ∧ ab σ3 5 61 (a : Int) := by rw [g_61]; omega
  obtain ⟨σ4, e4⟩ : ∃ σ4, σ4 = sI (sR (sR σ3 61 a (some c)) hc 6 (some c)) hc 7 0 := ⟨_, rfl⟩
  obtain ⟨σ5, e5⟩ : ∃ σ5, σ5 = sI σ4 51 2 ((N + 1 : Nat) : Int) := ⟨_, rfl⟩
  have i5 : ∀ q s, ¬ (q = hc ∧ s = 7) → ¬ (q = 51 ∧ s = 2) → gI σ5 q s = gI σ2 q s := fun q s h1 h2 => by
    rw [e5, gI_sI, if_neg h2, e4, gI_sI, if_neg h1]
    exact i3 q s
  have r5 : ∀ q s, ¬ (q = hc ∧ s = 6) → ¬ (q = 61 ∧ s = a) → gR σ5 q s = gR σ3 q s := fun q s h1 h2 => by
    rw [e5, e4]
    show gR (sR (sR σ3 61 a (some c)) hc 6 (some c)) q s = _
    rw [gR_sR, if_neg h1, gR_sR, if_neg h2]
  have l5 : ∀ q s, gL σ5 q s = gL τ1 q s := fun q s => by
    rw [e5, e4]
    show gL σ3 q s = _
    rw [l3, e2]
    rfl
  have k5 : ∀ q, kd σ5 q = kd ρ q := fun q => by
    rw [e5, e4]
    show kd σ3 q = _
    rw [k3, e2]
    exact kd1 q
  have g2' : gI σ4 51 (Int.toNat 2) = (N : Int) := by
    show gI σ4 51 2 = (N : Int)
    rw [e4, gI_sI, if_neg (by omega)]
    show gI σ3 51 2 = (N : Int)
    rw [i3, ig _ _ (by omega), g2]
  have ww : w32 ((N : Int) + 1) = ((N + 1 : Nat) : Int) := w32_s (by omega)
  have rs : ∀ q s, q = 39 ∨ q = 58 ∨ q = 59 → gR σ5 q s = gR ρ q s := fun q s h => by
    rw [r5 _ _ (by omega) (by omega), r3 _ _ (fun _ => by omega) (fun x e => by have := nx x e; omega), r2 _ _ (by omega), d3 _ _ (by omega)]
  have sρ : ∀ s, s < 312 → slR σ5 s = slR ρ s := fun s hs => by
    unfold slR
    rw [rs _ _ (by omega), rs _ _ (by omega), rs _ _ (by omega), rs _ _ (by omega)]
  have so' : ∀ s, s < 312 → ¬ s = 2 + N → slR σ5 s = slR σ s := fun s hs hn => (sρ s hs).trans (so s hs hn)
  have kk5 : σ5.2.2.2 = ρ.2.2.2 := by
    rw [e5, e4]
    show σ3.2.2.2 = _
    rw [kk3, e2]
    exact d4
  obtain ⟨po5, pn5, pg5⟩ := po_id poρ sρ kk5
  refine ⟨c, okc_o (τ := σ5) ?_ ⟨⟨?_, st_kd (fun q _ _ => k5 q) sc, cc⟩, ⟨?_, ⟨?_, ?_, ?_, ?_⟩, ?_, ?_⟩, ⟨?_, ?_, ?_⟩, ⟨?_, fun e => ?_, fun x e => ?_⟩, ⟨fun q s h1 h2 h3 => ?_, fun q s h1 => ?_, fun q s h1 h2 h3 h4 h5 h6 => ?_, fun q h1 => ?_⟩, ⟨?_, ?_, ?_⟩, so', far⟩
  · have gd51 : Option.isSome (some 51) = true ∧ ab σ4 3 51 2 := by rw [g_51]; decide
    have ah4 : ao (sR σ3 61 a (some c)) 8 (some hc) ∧ ak (sR σ3 61 a (some c)) 2 (some c) := ⟨ah3, akc3⟩
    have ah5 : ao (sR (sR σ3 61 a (some c)) hc 6 (some c)) 8 (some hc) := ah3
    have h14a : gR (sR σ3 61 a (some c)) 39 14 = some hc := by rw [gR_sR, if_neg (by omega)]; exact h14''
    have h14b : gR (sR (sR σ3 61 a (some c)) hc 6 (some c)) 39 14 = some hc := by rw [gR_sR, if_neg (by omega)]; exact h14a
    rw [s59, s106, e38_106, h14'', if_pos ah3, Option.getD_some, g5'', if_pos ⟨gd61', akc3⟩, Int.toNat_natCast, h14a, if_pos ah4, Option.getD_some, h14b, if_pos ah5, Option.getD_some, ← e4, e38_135, if_pos gd51, if_pos gd51, g2', ww, e5]
    rfl
  · rw [r5 _ _ (by omega) (by omega), r3 _ _ (fun _ => by omega) (fun x e => by have := nx x e; omega), r2 _ _ (by omega), d3 _ _ (by omega)]
    exact r58
  · have s2 : CSt σ2 c S := by
      rw [e2]
      exact CSt_9 (Or.inr rfl) (by omega) (by omega) (CSt_9 (σ := sR τ1 c 8 none) (Or.inl rfl) (by omega) (by omega) c1)
    exact CSt_q (fun s => i5 _ _ (by omega) (by omega)) (fun s => i5 _ _ (by omega) (by omega)) (fun s => i5 _ _ (by omega) (by omega)) (fun s => by rw [l5, e2]; rfl) s2
  · rw [i5 _ _ (by omega) (by omega), i2 _ _ (by omega), c5, n1 _ _ (by omega), g5]
  · rw [i5 _ _ (by omega) (by omega), i2 _ _ (by omega), c7, n1 _ _ (by omega)]
  · rw [i5 _ _ (by omega) (by omega), e2, gI_sI, if_neg (by omega), gI_sI, if_pos ⟨rfl, rfl⟩]
  · rw [i5 _ _ (by omega) (by omega), e2, gI_sI, if_pos ⟨rfl, rfl⟩]
  · rw [r5 _ _ (by omega) (by omega), r3 _ _ (fun _ => by omega) (fun x e => by have := nx x e; omega), r2 _ _ (by omega), c6, r6]
  · rw [r5 _ _ (by omega) (by omega), r3 _ _ (fun _ => by omega) (fun x e => by have := nx x e; omega), e2]
    show gR (sR τ1 c 8 none) c 8 = none
    rw [gR_sR, if_pos ⟨rfl, rfl⟩]
  · rw [e5, e4]
    show gR (sR (sR σ3 61 a (some c)) hc 6 (some c)) hc 6 = some c
    rw [gR_sR, if_pos ⟨rfl, rfl⟩]
  · rw [e5, gI_sI, if_neg (by omega), e4, gI_sI, if_pos ⟨rfl, rfl⟩]
  · rw [e5, gI_sI, if_pos ⟨rfl, rfl⟩]
  · rw [e5, e4]
    show gR (sR (sR σ3 61 a (some c)) hc 6 (some c)) 61 a = some c
    rw [gR_sR, if_neg (by omega), gR_sR, if_pos ⟨rfl, rfl⟩]
  · rw [r5 _ _ (by omega) (by omega)]
    exact f60 e
  · have := nx x e
    rw [r5 _ _ (by omega) (by omega)]
    exact fx x e
  · rw [i5 q s h2 h3, ig q s h1]
  · rw [l5, d2 _ _ (by omega), n2 q s h1]
  · rw [r5 q s h3 h4, r3 q s h5 h6, rg q s h1 h2]
  · rw [k5, n4 q h1]
  · exact po5
  · exact pn5 C pnρ
  · exact pgr_t pg5 pgρ
end CKEP2
-- FILE 99i.cnot
/-! ===== the class's walk: an instruction is noted (note) (not yet compiled) ===== -/
section CNOT
variable {σ : MS} {hc a : Nat} {S : ST} {G Fa f5 : Int}
abbrev ntS (σ : MS) (hc : Nat) (S : ST) (G Fa f5 : Int) : MS := sI (sI (sI σ 51 1 (G + 1)) hc 7 (Fa + 1)) 51 5 (if f5 < (sF S : Int) then (sF S : Int) else f5)
theorem T35 (ha : a < 200) (h14 : gR σ 39 14 = some hc) (sh : isSt σ hc) (ch : isCl hc) (hS : CSt σ hc S) (F : 1 ≤ sF S ∧ sF S ≤ 4) (g1 : gI σ 51 1 = G) (hG : 0 ≤ G ∧ G < 100000) (g7 : gI σ hc 7 = Fa) (hFa : 0 ≤ Fa ∧ Fa < 100000) (g5 : gI σ 51 5 = f5) :
    MM 35 [mR (some 39), mI (a : Int)] σ = some (none, sI (cpL (ntS σ hc S G Fa f5) (hc + 1 + 0) ((pR S 0 : Nat) : Int) 53 ((110 * a : Nat) : Int) 110) 52 a 1) := by
  unfold isCl at ch
  have nh : ¬ hc = 51 := by omega
  have nh' : ¬ 51 = hc := by omega
  have ao8 : ao σ 8 (some hc) = True := aoS sh
  have f3 : gI σ hc 3 = (sF S : Int) := hS.1.1
  have f3' : gI (ntS σ hc S G Fa f5) hc 3 = (sF S : Int) := by
    rw [gI_sI, if_neg (by omega), gI_sI, if_neg (by omega), gI_sI, if_neg (by omega)]
    exact f3
  have t12 : MM 212 [mR (some hc), mI 0] (ntS σ hc S G Fa f5) = some (some (mI ((pR S 0 : Nat) : Int)), ntS σ hc S G Fa f5) := T212 (r := 0) sh f3' F (by decide)
  have p0 := pR_lt F (show 0 ≤ 10 by decide)
  have p0' : pR S 0 + 110 ≤ 1188 := by
    show 297 * (sF S - 1) + 11 * 0 + 110 ≤ 1188
    omega
  have x53 : kd σ 53 = (4, 22000) := rfl
  have a0 : 0 ≤ ((pR S 0 : Nat) : Int) := by omega
  have kk : (Option.isSome (some (hc + 1 + 0)) = true ∧ Option.isSome (some 53) = true) ∧ ac (ntS σ hc S G Fa f5) 4 (hc + 1 + 0) 53 ((pR S 0 : Nat) : Int) ((110 * a : Nat) : Int) 110 := by
    have k1 : kd (ntS σ hc S G Fa f5) (hc + 1 + 0) = (4, 1188) := sh.2.1
    have k2 : kd (ntS σ hc S G Fa f5) 53 = (4, 22000) := x53
    refine ⟨⟨rfl, rfl⟩, ⟨by rw [k1], by rw [k2]⟩, ⟨a0, by omega, by decide⟩, ?_, ?_⟩
    · rw [k1]
      show ((pR S 0 : Nat) : Int) + 110 ≤ ((1188 : Nat) : Int)
      omega
    · rw [k2]
      show ((110 * a : Nat) : Int) + 110 ≤ ((22000 : Nat) : Int)
      omega
  have g52 : ∀ ρ : MS, (Option.isSome (some 52) = true ∧ ab ρ 2 52 (a : Int)) = True := fun ρ => by
    rw [g_52]
    exact eq_true (by omega)
  have g51a : ∀ ρ : MS, (Option.isSome (some 51) = true ∧ ab ρ 3 51 1) = True := fun ρ => by
    rw [g_51]
    exact eq_true (by decide)
  have g51b : ∀ ρ : MS, (Option.isSome (some 51) = true ∧ ab ρ 3 51 5) = True := fun ρ => by
    rw [g_51]
    exact eq_true (by decide)
  have e110 : (a : Int) * 110 = ((110 * a : Nat) : Int) := by omega
  have w110 : w32 ((a : Int) * 110) = ((110 * a : Nat) : Int) := by rw [e110]; exact w32_i (by omega) (by omega)
  have w1 : w32 (G + 1) = G + 1 := w32_i (by omega) (by omega)
  have w7 : w32 (Fa + 1) = Fa + 1 := w32_i (by omega) (by omega)
  have s44 : MM 35 [mR (some 39), mI (a : Int)] σ = RR (lkB tb35) (B35_44, [some (mR (some 39)), some (mI (a : Int))], [mI (if f5 < (sF S : Int) then (sF S : Int) else f5), mI 5, mR (some 51)], sI (sI σ 51 1 (G + 1)) hc 7 (Fa + 1)) := by
    simp only [M35, e35_0, Option.getD_some, Option.bind_some, Option.toList_some, Option.toList_none, List.cons_append, List.nil_append, and_self, and_true, true_and, false_and, and_false, ite_self, not_true_eq_false, not_false_eq_true, reduceIte, Nat.reduceEqDiff, ab_I, ab_L, ab_R, ao_I, ao_L, ao_R, gL_sL, gI_sI, gR_sR, gI_sL, gI_sR, gL_sI, gL_sR, gR_sI, gR_sL, g51a, g51b, Int.reduceToNat, g1, w1, h14, ao8, nh, nh', g7, w7, g5, f3, T570]
  have s60 : RR (lkB tb35) (B35_44, [some (mR (some 39)), some (mI (a : Int))], [mI (if f5 < (sF S : Int) then (sF S : Int) else f5), mI 5, mR (some 51)], sI (sI σ 51 1 (G + 1)) hc 7 (Fa + 1)) = RR (lkB tb35) (B35_60, [some (mR (some 39)), some (mI (a : Int))], [mI ((pR S 0 : Nat) : Int), mR (some (hc + 1 + 0))], ntS σ hc S G Fa f5) := by
    simp only [e35_44, Option.getD_some, Option.bind_some, Option.toList_some, Option.toList_none, List.cons_append, List.nil_append, and_self, and_true, true_and, false_and, and_false, ite_self, not_true_eq_false, not_false_eq_true, reduceIte, Nat.reduceEqDiff, ab_I, ab_L, ab_R, ao_I, ao_L, ao_R, gL_sL, gI_sI, gR_sR, gI_sL, gI_sR, gL_sI, gL_sR, gR_sI, gR_sL, g51b, Int.reduceToNat, h14, ao8, t12]
  rw [s44, s60, e35_60, w110]
  simp only [Option.getD_some]
  rw [if_pos kk, if_pos (of_eq_true (g52 _)), Int.toNat_natCast]
  rfl
end CNOT
-- FILE 99j.cgon
/-! ===== the class's walk: behind an instruction (goOn) (not yet compiled) ===== -/
section CGON
variable {τ σ ρ : MS} {hc sc M : Nat} {Fr f5 f4 n g : Int}
/-- one way, or none -/
theorem L36a (h14 : gR σ 39 14 = some hc) (sh : isSt σ hc) (b0 : gI σ 40 3 = 0) (g5 : gI σ 51 5 = f5) (fr : gI σ hc 3 = Fr) : MM 36 [mR (some 39)] σ = RR (lkB tb36) (B36_117, [some (mR (some 39)), none], [], sI σ 51 5 (if f5 < Fr then Fr else f5)) := by
  have ao8 : ao σ 8 (some hc) = True := aoS sh
  have g51 : (Option.isSome (some 51) = true ∧ ab σ 3 51 5) = True := by
    rw [g_51]
    exact eq_true (by decide)
  simp only [M36, e36_0, e36_21, Option.getD_some, Option.bind_some, Option.toList_some, Option.toList_none, List.cons_append, List.nil_append, and_self, and_true, true_and, false_and, and_false, ite_self, not_true_eq_false, not_false_eq_true, reduceIte, Nat.reduceEqDiff, ab_I, ab_L, ab_R, ao_I, ao_L, ao_R, gL_sL, gI_sI, gR_sR, gI_sL, gI_sR, gL_sI, gL_sR, gR_sI, gR_sL, g51, Int.reduceToNat, h14, ao8, g5, fr, T570, b0]
/-- the way goes on at the next word -/
theorem L36n (h14 : gR ρ 39 14 = some hc) (sh : isSt ρ hc) (h4 : gI ρ 40 4 = n) (h0 : 0 ≤ n) : RR (lkB tb36) (B36_117, [some (mR (some 39)), none], [], ρ) = some (some (mI 1), sI ρ hc 5 n) := by
  have ao8 : ao ρ 8 (some hc) := of_eq_true (aoS sh)
  rw [e36_117, h4, if_pos h0, h14, if_pos ao8, Option.getD_some]
/-- the way is over: as endWay says -/
theorem L36e {z : Int} (h4 : gI ρ 40 4 = n) (h0 : n < 0) (hz : z = 0 ∨ z = 1) (e : MM 39 [mR (some 39), mI 0] ρ = some (some (mI z), τ)) : RR (lkB tb36) (B36_117, [some (mR (some 39)), none], [], ρ) = some (some (mI z), τ) := by
  rw [e36_117, h4, if_neg (by omega), e]
  show RR (lkB tb36) (B36_132, [some (mR (some 39)), none], [mI z], τ) = _
  rw [e36_132, if_pos hz]
/-- two ways: the spare state waits, another one becomes the spare -/
abbrev gnS (σ : MS) (sc M : Nat) (f5' g : Int) : MS := sR (sI (sI σ 51 5 f5') sc 5 g) 59 M (some sc)
theorem L36b (h14 : gR σ 39 14 = some hc) (sh : isSt σ hc) (h15 : gR σ 39 15 = some sc) (ss : isSt σ sc) (cs : isCl sc) (ch : isCl hc) (b1 : gI σ 40 3 = 1) (t5 : gI σ 40 5 = g) (g5 : gI σ 51 5 = f5) (fr : gI σ hc 3 = Fr) (h11 : gI σ 39 11 = (M : Int)) (hM : M < 60) :
    MM 36 [mR (some 39)] σ = RR (lkB tb36) (B36_69, [some (mR (some 39)), some (mR (gR σ 59 M))], [], gnS σ sc M (if f5 < Fr then Fr else f5) g) := by
  unfold isCl at cs ch
  have ao8 : ao σ 8 (some hc) = True := aoS sh
  have ao9 : ao σ 8 (some sc) = True := aoS ss
  have g51 : (Option.isSome (some 51) = true ∧ ab σ 3 51 5) = True := by
    rw [g_51]
    exact eq_true (by decide)
  have g59 : (Option.isSome (some 59) = true ∧ ab σ 5 59 (M : Int)) = True := by
    rw [g_59]
    exact eq_true (by omega)
  have aqs : aq σ 5 (some sc) = True := eq_true (fun _ => by show (kd σ sc).1 = 28; rw [ss.1])
  have n1 : ¬ sc = 40 := by omega
  have n2 : ¬ 39 = sc := by omega
  have n3 : ¬ (1 : Int) = 0 := by decide
  have s21 : MM 36 [mR (some 39)] σ = RR (lkB tb36) (B36_21, [some (mR (some 39)), none], [mI (if f5 < Fr then Fr else f5), mI 5, mR (some 51)], σ) := by
    simp only [M36, e36_0, Option.getD_some, Option.bind_some, Option.toList_some, Option.toList_none, List.cons_append, List.nil_append, and_self, and_true, true_and, false_and, and_false, ite_self, not_true_eq_false, not_false_eq_true, reduceIte, Nat.reduceEqDiff, ab_I, ab_L, ab_R, ao_I, ao_L, ao_R, gL_sL, gI_sI, gR_sR, gI_sL, gI_sR, gL_sI, gL_sR, gR_sI, gR_sL, g51, Int.reduceToNat, h14, ao8, g5, fr, T570]
  rw [s21]
  simp only [e36_21, Option.getD_some, Option.bind_some, Option.toList_some, Option.toList_none, List.cons_append, List.nil_append, and_self, and_true, true_and, false_and, and_false, ite_self, not_true_eq_false, not_false_eq_true, reduceIte, Nat.reduceEqDiff, ab_I, ab_L, ab_R, ao_I, ao_L, ao_R, gL_sL, gI_sI, gR_sR, gI_sL, gI_sR, gL_sI, gL_sR, gR_sI, gR_sL, g51, Int.reduceToNat, b1, n3, h15, ao9, t5, h11, g59, aqs, n1, n2, Int.toNat_natCast]
end CGON
-- FILE 99k.cwx
/-! ===== the class's walk against the pure walk: what is so of a store ===== -/
def KNc (σ : MS) (x : Int → Option ST) : Prop := ∀ i : Nat, i < 200 → (∀ S, x (i : Int) = some S → gI σ 52 i = 1 ∧ ∀ r f : Nat, r < 10 → f < 11 → gL σ 53 (110 * i + (11 * r + f)) = enV (rgV S r) f) ∧ (x (i : Int) = none → gI σ 52 i = 0)
abbrev cwT (q s : Nat) : Prop := (q = 39 ∧ (s = 11 ∨ s = 14 ∨ s = 15)) ∨ q = 40 ∨ (42 ≤ q ∧ q ≤ 53) ∨ (58 ≤ q ∧ q ≤ 61) ∨ q = 70
/-- what the walk may change, beside the states -/
def cwq (τ σ : MS) : Prop := (∀ q s, oth σ q → ¬ cwT q s → gI τ q s = gI σ q s ∧ gL τ q s = gL σ q s ∧ gR τ q s = gR σ q s) ∧ (∀ q, oth σ q → kd τ q = kd σ q) ∧ pgr τ σ
def CWp (σ : MS) (C : Int) : Prop := POOL σ ∧ PCN σ C ∧ ∃ sc, gR σ 39 15 = some sc
def CWk (σ : MS) (cf : Nat → Nat) (w : WK) (D : Nat → Bool) : Prop := (∀ k, k < yNn w → gR σ 58 k = some (cf k)) ∧ (KC σ cf (yH w) (yNn w) D ∧ KF σ cf (yH w) (yNn w)) ∧ (∀ x, x < yNn w → (D x = true ↔ ¬ x ∈ cha (yH w) (yK w))) ∧ ∀ a : Nat, a < 200 → gR σ 60 a = (fnd (fun j => decide (kA (yH w j) = (a : Int))) (yNn w) 0).map cf ∧ gR σ 61 a = (lnd (fun j => decide (kA (yH w j) = (a : Int))) (yNn w)).map cf
def CWw (σ : MS) (cf wf : Nat → Nat) (w : WK) : Prop := ∀ j, j < yM w → (gR σ 59 j = some (wf j) ∧ CSt σ (wf j) (wtS (yW w j))) ∧ gI σ (wf j) 5 = wtA (yW w j) ∧ gI σ (wf j) 7 = wtF (yW w j) ∧ gR σ (wf j) 6 = some (cf (wtK (yW w j)))
def CWh (σ : MS) (w : WK) (hc : Nat) : Prop := CSt σ hc (yS w) ∧ gI σ hc 5 = yA w
def CWl (σ : MS) (cf : Nat → Nat) (w : WK) (hc : Nat) : Prop := gR σ 39 14 = some hc ∧ gI σ hc 7 = yF w ∧ gR σ hc 6 = some (cf (yK w))
def CWf (σ : MS) (w : WK) : Prop := (gI σ 51 1 = yG w ∧ gI σ 51 2 = (yNn w : Int) ∧ gI σ 51 4 = w.2.2.2.1 ∧ gI σ 51 5 = w.2.2.2.2.1) ∧ gI σ 40 8 = yT w ∧ KNc σ w.2.2.2.2.2
/-- all but what is at hand -/
def CWx (σ : MS) (C : Int) (cf wf : Nat → Nat) (D : Nat → Bool) (hc : Nat) (w : WK) : Prop := dfI w ∧ CWp σ C ∧ CWk σ cf w D ∧ CWw σ cf wf w ∧ CWl σ cf w hc ∧ gI σ 39 11 = (yM w : Int) ∧ CWf σ w
def CW (σ : MS) (C : Int) (w : WK) : Prop := ∃ cf wf D hc, CWx σ C cf wf D hc w ∧ CWh σ w hc
section CWX
variable {a b c τ σ ρ : MS} {cf wf : Nat → Nat} {D : Nat → Bool} {hc q s k : Nat} {w : WK} {C B n F : Int} {S : ST} {x : Int → Option ST} {K K' : Nat → KT} {N : Nat}
theorem cwq_r (σ : MS) : cwq σ σ := ⟨fun _ _ _ _ => ⟨rfl, rfl, rfl⟩, fun _ _ => rfl, pgr_r σ⟩
theorem cwq_t (h1 : cwq a b) (h2 : cwq b c) (pn : PCN b C) : cwq a c := ⟨fun q s o p => by
  have o' := pgr_o h2.2.2 pn o
  obtain ⟨x1, x2, x3⟩ := h1.1 q s o' p
  obtain ⟨y1, y2, y3⟩ := h2.1 q s o p
  exact ⟨x1.trans y1, x2.trans y2, x3.trans y3⟩, fun q o => (h1.2.1 q (pgr_o h2.2.2 pn o)).trans (h2.2.1 q o), pgr_t h1.2.2 h2.2.2⟩
theorem oth_l (po : POOL σ) (pn : PCN σ C) (h : q < 62 ∨ (70 ≤ q ∧ q < 153)) : oth σ q := by
  have := pn.2.1
  refine ⟨Or.inl (by omega), fun s c hs e => ?_⟩
  have y := (po.1 s c hs e).2
  unfold isCl at y
  omega
theorem KN_c (hi : ∀ s, gI τ 52 s = gI σ 52 s) (hl : ∀ s, gL τ 53 s = gL σ 53 s) (h : KNc σ x) : KNc τ x := fun i q => by
  obtain ⟨y1, y2⟩ := h i q
  refine ⟨fun S e => ?_, fun e => (hi _).trans (y2 e)⟩
  obtain ⟨z1, z2⟩ := y1 S e
  exact ⟨(hi _).trans z1, fun r f r1 f1 => (hl _).trans (z2 r f r1 f1)⟩
theorem CWf_q (h5 : ∀ s, s = 1 ∨ s = 2 ∨ s = 4 ∨ s = 5 → gI τ 51 s = gI σ 51 s) (h8 : gI τ 40 8 = gI σ 40 8) (hi : ∀ s, gI τ 52 s = gI σ 52 s) (hl : ∀ s, gL τ 53 s = gL σ 53 s) (h : CWf σ w) : CWf τ w := by
  obtain ⟨⟨f1, f2, f4, f5⟩, f8, fk⟩ := h
  exact ⟨⟨(h5 _ (by omega)).trans f1, (h5 _ (by omega)).trans f2, (h5 _ (by omega)).trans f4, (h5 _ (by omega)).trans f5⟩, h8.trans f8, KN_c hi hl fk⟩
/-- the cells of kept states, of ways that wait, of the way at hand lie apart -/
theorem ap_kh (po : POOL σ) (N250 : N ≤ 250) (hk : ∀ k, k < N → gR σ 58 k = some (cf k)) (h14 : gR σ 39 14 = some hc) (hkN : k < N) : (cf k + 3 < hc ∨ hc + 3 < cf k) := po.2 (2 + k) 0 _ _ (by omega) (by decide) (by omega) ((sR_kp (by omega)).trans (hk k hkN)) (sR_z.trans h14)
theorem ap_kw {j wj : Nat} (po : POOL σ) (N250 : N ≤ 250) (hk : ∀ k, k < N → gR σ 58 k = some (cf k)) (hj : j < 60) (hw : gR σ 59 j = some wj) (hkN : k < N) : (cf k + 3 < wj ∨ wj + 3 < cf k) := po.2 (2 + k) (252 + j) _ _ (by omega) (by omega) (by omega) ((sR_kp (by omega)).trans (hk k hkN)) (sR_wt.trans hw)
theorem ap_wh {j wj : Nat} (po : POOL σ) (hj : j < 60) (hw : gR σ 59 j = some wj) (h14 : gR σ 39 14 = some hc) : (wj + 3 < hc ∨ hc + 3 < wj) := po.2 (252 + j) 0 _ _ (by omega) (by decide) (by omega) (sR_wt.trans hw) (sR_z.trans h14)
theorem ap_kc (po : POOL σ) (N250 : N ≤ 250) (hk : ∀ k, k < N → gR σ 58 k = some (cf k)) (hkN : k < N) : isSt σ (cf k) ∧ isCl (cf k) := po.1 (2 + k) _ (by omega) ((sR_kp (by omega)).trans (hk k hkN))
theorem ap_wc {j wj : Nat} (po : POOL σ) (hj : j < 60) (hw : gR σ 59 j = some wj) : isSt σ wj ∧ isCl wj := po.1 (252 + j) _ (by omega) (sR_wt.trans hw)
/-- the frame of the end of a way -/
theorem ew_cwq {m : Nat} (po : POOL σ) (N250 : N ≤ 250) (hk : ∀ k, k < N → gR σ 58 k = some (cf k)) (h : ewq τ σ cf N m) (pg : pgr τ σ) : cwq τ σ := ⟨fun q s o p => ⟨h.1 q s (Or.inr fun k hk' e => by
    have := o.2 (2 + k) (cf k) (by omega) ((sR_kp (by omega)).trans (hk k hk'))
    omega) (by omega) (by omega), h.2.1 q s, h.2.2.1 q s (by omega) (by omega)⟩, fun q _ => kd_r3 h.2.2.2 q, pg⟩
/-- the lists by word -/
theorem lst_e (e : ∀ j, kA (K' j) = kA (K j)) {f m : Nat} {a : Int} : fnd (fun j => decide (kA (K' j) = a)) f m = fnd (fun j => decide (kA (K j) = a)) f m := fnd_e (fun j => by
  show decide (kA (K' j) = a) = decide (kA (K j) = a)
  rw [e j]) f m
theorem lsl_e (e : ∀ j, kA (K' j) = kA (K j)) {a : Int} : lnd (fun j => decide (kA (K' j) = a)) N = lnd (fun j => decide (kA (K j) = a)) N := lnd_g N (fun j _ => by
  show decide (kA (K' j) = a) = decide (kA (K j) = a)
  rw [e j])
theorem CSt_h (h3 : gI τ k 3 = gI σ k 3) (h4 : gI τ k 4 = gI σ k 4) (h1 : ∀ s, gI τ (k + 1 + 1) s = gI σ (k + 1 + 1) s) (h2 : ∀ s, gI τ (k + 1 + 2) s = gI σ (k + 1 + 2) s) (hl : ∀ s, gL τ (k + 1 + 0) s = gL σ (k + 1 + 0) s) (h : CSt σ k S) : CSt τ k S := by
  obtain ⟨⟨f3, f4⟩, v1, v2, v3, v4, v5⟩ := h
  exact ⟨⟨h3.trans f3, h4.trans f4⟩, fun f r hf hr i q => (hl _).trans (v1 f r hf hr i q), fun f hf i q => (hl _).trans (v2 f hf i q), fun f q hf hq i p => (hl _).trans (v3 f q hf hq i p), fun f p q => (h1 _).trans (v4 f p q), fun i hi => (h2 _).trans (v5 i hi)⟩
/-- the last way ends -/
theorem cw_e0 (h : CWx σ C cf wf D hc w) (eM : yM w = 0) (hB : KB (yH w) (yNn w) B) (hC : 0 ≤ B ∧ B ≤ 50000) (hF : 0 ≤ yF w + n ∧ yF w + n ≤ B + 4000) : okc (MM 39 [mR (some 39), mI n] σ) (some (mI 0)) (fun τ => cwq τ σ ∧ CWp τ C ∧ CWf τ w ∧ gI τ 51 0 = gI σ 51 0 ∧ gI τ 51 3 = kL (endK (yH w) (yK w) (yF w + n) 0)) := by
  obtain ⟨df, ⟨po, pn, sc, h15⟩, ⟨k1, ⟨k2, k3⟩, k4, k5⟩, hw, ⟨l1, l2, l3⟩, h11, hf⟩ := h
  have N250 := df.2.1.2.1
  obtain ⟨τ, t, q1, q2, q3⟩ := T39z (n := n) df po l1 k1 eM k2 l3 l2 hB hC hF h11
  have sl : ∀ s, s < 312 → slR τ s = slR σ s := fun s _ => by
    unfold slR
    rw [q3, q3, q3, q3]
  obtain ⟨po', pn', pg'⟩ := po_id po sl q2.2.2.2
  have ne : ∀ q, q < 62 → ∀ k, k < yNn w → ¬ q = cf k := fun q hq k hk e => by
    have := (ap_kc po N250 k1 hk).2
    unfold isCl at this
    omega
  exact okc_o (τ := τ) t ⟨ew_cwq po N250 k1 q2 pg', ⟨po', pn' C pn, sc, (q3 _ _).trans h15⟩, CWf_q (fun s hs => q2.1 _ _ (Or.inr (ne 51 (by decide))) (by omega) (by omega)) (q2.1 _ _ (Or.inr (ne 40 (by decide))) (by omega) (by omega)) (fun s => q2.1 _ _ (Or.inr (ne 52 (by decide))) (by omega) (by omega)) (fun s => q2.2.1 _ _) hf, q2.1 _ _ (Or.inr (ne 51 (by decide))) (by omega) (by omega), q1⟩
/-- a way ends, another one goes on -/
theorem cw_e1 {m : Nat} (h : CWx σ C cf wf D hc w) (eM : yM w = m + 1) (hB : KB (yH w) (yNn w) B) (hC : 0 ≤ B ∧ B ≤ 50000) (hF : 0 ≤ yF w + n ∧ yF w + n ≤ B + 4000) : okc (MM 39 [mR (some 39), mI n] σ) (some (mI 1)) (fun τ => cwq τ σ ∧ gI τ 51 0 = gI σ 51 0 ∧ CW τ C (popK (w.1, (yNn w, endK (yH w) (yK w) (yF w + n)), w.2.2))) := by
  obtain ⟨df, ⟨po, pn, sc, h15⟩, ⟨k1, ⟨k2, k3⟩, k4, k5⟩, hw, ⟨l1, l2, l3⟩, h11, hf⟩ := h
  have N250 := df.2.1.2.1
  have M60 := df.2.1.2.2
  have lm : m < yM w := by omega
  obtain ⟨⟨w1, w2⟩, w3, w4, w5⟩ := hw m lm
  obtain ⟨τ, t, ⟨D1, q1, q2⟩, ⟨po', pn', pg'⟩, ⟨q4, q5, q6⟩, q7⟩ := T39w (wf := wf) (n := n) df po l1 k1 eM w1 k2 k4 l3 l2 hB hC hF h11 w5
  have ne : ∀ q, q < 62 → ∀ k, k < yNn w → ¬ q = cf k := fun q hq k hk e => by
    have := (ap_kc po N250 k1 hk).2
    unfold isCl at this
    omega
  have es := end_same (yH w) (yK w) (yF w + n)
  have e1 : yM w - 1 = m := by omega
  have dp := df_p (n := yF w + n) df (by omega)
  -- what waits stays
  have gw : ∀ j, j < yM w → ∀ wj, gR σ 59 j = some wj → ∀ q s, wj ≤ q → q < wj + 4 → gI τ q s = gI σ q s := fun j hj wj e q s h1 h2 => by
    have y := (ap_wc po (show j < 60 by omega) e).2
    unfold isCl at y
    refine q7.1 _ _ (Or.inr fun k hk => ?_) (by omega) (by omega)
    have := ap_kw po N250 k1 (show j < 60 by omega) e hk
    omega
  have cS : ∀ j, j < yM w → CSt τ (wf j) (wtS (yW w j)) := fun j hj => by
    obtain ⟨⟨u1, u2⟩, _⟩ := hw j hj
    exact CSt_q (fun s => gw j hj _ u1 _ s (by omega) (by omega)) (fun s => gw j hj _ u1 _ s (by omega) (by omega)) (fun s => gw j hj _ u1 _ s (by omega) (by omega)) (fun s => q7.2.1 _ _) u2
  have r7 : ∀ c s, isCl c → gR τ c s = gR σ c s := fun c s h => by
    unfold isCl at h
    exact q7.2.2.1 _ _ (by omega) (by omega)
  have s15 : gR τ 39 15 = some sc := (q7.2.2.1 _ _ (by omega) (by omega)).trans h15
  refine okc_o (τ := τ) t ⟨ew_cwq po N250 k1 q7 pg', q7.1 _ _ (Or.inr (ne 51 (by decide))) (by omega) (by omega), cf, wf, D1, wf m, ⟨dp, ⟨po', pn' C pn, sc, s15⟩, ⟨fun k hk => (q7.2.2.1 _ _ (by omega) (by omega)).trans (k1 k hk), ⟨q1, fun k hk => ?_⟩, fun x hx => ?_, fun a ha => ?_⟩, fun j hj => ?_, ⟨q4, ?_, ?_⟩, ?_, ?_⟩, ?_, ?_⟩
  · have hk : k < yNn w := hk
    rw [r7 _ _ (ap_kc po N250 k1 hk).2, k3 k hk]
    show _ = (fnd (fun j => decide (kA (endK (yH w) (yK w) (yF w + n) j) = kA (endK (yH w) (yK w) (yF w + n) k))) (yNn w - (k + 1)) (k + 1)).map cf
    rw [(es k).2.1, lst_e (fun j => (es j).2.1)]
  · show D1 x = true ↔ ¬ x ∈ cha (endK (yH w) (yK w) (yF w + n)) (yW w (yM w - 1)).2.2.1
    rw [e1]
    exact q2 x hx
  · show gR τ 60 a = (fnd (fun j => decide (kA (endK (yH w) (yK w) (yF w + n) j) = (a : Int))) (yNn w) 0).map cf ∧ gR τ 61 a = (lnd (fun j => decide (kA (endK (yH w) (yK w) (yF w + n) j) = (a : Int))) (yNn w)).map cf
    rw [lst_e (fun j => (es j).2.1), lsl_e (fun j => (es j).2.1), q7.2.2.1 60 a (by omega) (by omega), q7.2.2.1 61 a (by omega) (by omega)]
    exact k5 a ha
  · have hj : j < yM w - 1 := hj
    have hj2 : j < yM w := by omega
    obtain ⟨⟨u1, u2⟩, u3, u4, u5⟩ := hw j hj2
    refine ⟨⟨(q7.2.2.1 _ _ (by omega) (by omega)).trans u1, cS j hj2⟩, (gw j hj2 _ u1 _ _ (by omega) (by omega)).trans u3, (gw j hj2 _ u1 _ _ (by omega) (by omega)).trans u4, (r7 _ _ (ap_wc po (show j < 60 by omega) u1).2).trans u5⟩
  · show gI τ (wf m) 7 = (yW w (yM w - 1)).2.2.2
    rw [e1]
    exact (gw m lm _ w1 _ _ (by omega) (by omega)).trans w4
  · show gR τ (wf m) 6 = some (cf (yW w (yM w - 1)).2.2.1)
    rw [e1]
    exact (r7 _ _ (ap_wc po (show m < 60 by omega) w1).2).trans w5
  · show gI τ 39 11 = ((yM w - 1 : Nat) : Int)
    rw [e1]
    exact q6
  · exact CWf_q (σ := σ) (fun s hs => q7.1 _ _ (Or.inr (ne 51 (by decide))) (by omega) (by omega)) (q7.1 _ _ (Or.inr (ne 40 (by decide))) (by omega) (by omega)) (fun s => q7.1 _ _ (Or.inr (ne 52 (by decide))) (by omega) (by omega)) (fun s => q7.2.1 _ _) hf
  · show CSt τ (wf m) (yW w (yM w - 1)).1
    rw [e1]
    exact cS m lm
  · show gI τ (wf m) 5 = (yW w (yM w - 1)).2.1
    rw [e1]
    exact (gw m lm _ w1 _ _ (by omega) (by omega)).trans w3
end CWX
-- FILE 99l.ckpw
/-! ===== the class's walk against the pure walk: a state is kept ===== -/
section CKPW
variable {a b c τ σ ρ : MS} {cf wf cf' : Nat → Nat} {D : Nat → Bool} {hc q s k j : Nat} {w : WK} {C B n F : Int} {S : ST} {K K' : Nat → KT} {x : KT} {N : Nat} {P : Nat → Bool}
theorem fnd_no : ∀ f m : Nat, fnd P f m = none → ∀ j, m ≤ j → j < m + f → P j = false := by
  intro f
  induction f with
  | zero => intro m _ j h1 h2; omega
  | succ f ih =>
    intro m h j h1 h2
    have h : (if P m = true then some m else fnd P f (m + 1)) = none := h
    by_cases e : P m = true
    · rw [if_pos e] at h
      cases h
    · rw [if_neg e] at h
      by_cases jm : j = m
      · rw [jm]
        simpa using e
      · exact ih (m + 1) h j (by omega) (by omega)
theorem fnd_all : ∀ f m : Nat, (∀ j, m ≤ j → j < m + f → P j = false) → fnd P f m = none := by
  intro f
  induction f with
  | zero => intro m _; rfl
  | succ f ih =>
    intro m h
    show (if P m = true then some m else fnd P f (m + 1)) = none
    rw [if_neg (by rw [h m (by omega) (by omega)]; decide), ih (m + 1) (fun j h1 h2 => h j (by omega) (by omega))]
theorem lnd_no : ∀ n : Nat, lnd P n = some k → ∀ j, k < j → j < n → P j = false := by
  intro n
  induction n with
  | zero => intro h; cases h
  | succ n ih =>
    intro h j h1 h2
    have h : (if P n = true then some n else lnd P n) = some k := h
    by_cases e : P n = true
    · rw [if_pos e] at h
      have := Option.some.inj h
      omega
    · rw [if_neg e] at h
      by_cases jn : j = n
      · rw [jn]
        simpa using e
      · exact ih h j h1 (by omega)
theorem lnd_of : ∀ n : Nat, k < n → P k = true → (∀ j, k < j → j < n → P j = false) → lnd P n = some k := by
  intro n
  induction n with
  | zero => intro h; omega
  | succ n ih =>
    intro h1 h2 h3
    show (if P n = true then some n else lnd P n) = some k
    by_cases e : k = n
    · rw [if_pos (e ▸ h2), e]
    · rw [if_neg (by rw [h3 n (by omega) (by omega)]; decide), ih (by omega) h2 (fun j p q => h3 j p (by omega))]
theorem map_cf {o : Option Nat} (h : ∀ y, o = some y → cf' y = cf y) : o.map cf' = o.map cf := by
  cases o with
  | none => rfl
  | some y =>
    show some (cf' y) = some (cf y)
    rw [h y rfl]
theorem up_e : upK K N x N = x := if_pos rfl
theorem up_n (h : ¬ j = N) : upK K N x j = K j := if_neg h
/-- the list of a word, one more behind it -/
theorem kf_s {a : Int} (hk : k < N) (ha : kA x = a) : fnd (fun j => decide (kA (upK K N x j) = kA (upK K N x k))) (N + 1 - (k + 1)) (k + 1) = (match fnd (fun j => decide (kA (K j) = kA (K k))) (N - (k + 1)) (k + 1) with
    | some y => some y
    | none => if kA (K k) = a then some N else none) := by
  have e1 : fnd (fun j => decide (kA (upK K N x j) = kA (upK K N x k))) (N - (k + 1)) (k + 1) = fnd (fun j => decide (kA (K j) = kA (K k))) (N - (k + 1)) (k + 1) := fnd_g _ _ (fun j h1 h2 => by
    show decide (kA (upK K N x j) = kA (upK K N x k)) = decide (kA (K j) = kA (K k))
    rw [up_n (by omega), up_n (by omega)])
  rw [show N + 1 - (k + 1) = (N - (k + 1)) + 1 by omega, fnd_s, e1]
  cases fnd (fun j => decide (kA (K j) = kA (K k))) (N - (k + 1)) (k + 1) with
  | some y => rfl
  | none =>
    show (if decide (kA (upK K N x (k + 1 + (N - (k + 1)))) = kA (upK K N x k)) = true then some (k + 1 + (N - (k + 1))) else none) = if kA (K k) = a then some N else none
    rw [show k + 1 + (N - (k + 1)) = N by omega, up_e, up_n (by omega), ha]
    by_cases e : kA (K k) = a
    · rw [if_pos e, if_pos (decide_eq_true e.symm)]
    · rw [if_neg e, if_neg (fun z => e (of_decide_eq_true z).symm)]
theorem kf_f {a b : Int} (ha : kA x = a) : fnd (fun j => decide (kA (upK K N x j) = b)) (N + 1) 0 = (match fnd (fun j => decide (kA (K j) = b)) N 0 with
    | some y => some y
    | none => if a = b then some N else none) := by
  have e1 : fnd (fun j => decide (kA (upK K N x j) = b)) N 0 = fnd (fun j => decide (kA (K j) = b)) N 0 := fnd_g _ _ (fun j h1 h2 => by
    show decide (kA (upK K N x j) = b) = decide (kA (K j) = b)
    rw [up_n (by omega)])
  rw [fnd_s, e1]
  cases fnd (fun j => decide (kA (K j) = b)) N 0 with
  | some y => rfl
  | none =>
    show (if decide (kA (upK K N x (0 + N)) = b) = true then some (0 + N) else none) = if a = b then some N else none
    rw [Nat.zero_add, up_e, ha]
    by_cases e : a = b
    · rw [if_pos e, if_pos (decide_eq_true e)]
    · rw [if_neg e, if_neg (fun z => e (of_decide_eq_true z))]
theorem kf_l {a b : Int} (ha : kA x = a) : lnd (fun j => decide (kA (upK K N x j) = b)) (N + 1) = (if a = b then some N else lnd (fun j => decide (kA (K j) = b)) N) := by
  have e1 : lnd (fun j => decide (kA (upK K N x j) = b)) N = lnd (fun j => decide (kA (K j) = b)) N := lnd_g _ (fun j h1 => by
    show decide (kA (upK K N x j) = b) = decide (kA (K j) = b)
    rw [up_n (by omega)])
  show (if decide (kA (upK K N x N) = b) = true then some N else lnd (fun j => decide (kA (upK K N x j) = b)) N) = _
  rw [e1, up_e, ha]
  by_cases e : a = b
  · rw [if_pos e, if_pos (decide_eq_true e)]
  · rw [if_neg e, if_neg (fun z => e (of_decide_eq_true z))]
/-- the new kept states, from what keep leaves -/
theorem kp_KC {c : Nat} {l : Option Nat} {a : Nat} (po : POOL σ) (N250 : N < 250) (h14 : gR σ 39 14 = some hc) (hk : ∀ k, k < N → gR σ 58 k = some (cf k)) (hK : KC σ cf K N D) (far : ∀ s x, s < 312 → ¬ s = 2 + N → slR σ s = some x → c + 3 < x ∨ x + 3 < c) (fr : kpq τ σ c hc N a l)
    (n1 : isSt τ c ∧ isCl c) (n2 : CSt τ c S ∧ (gI τ c 5 = (a : Int) ∧ gI τ c 7 = F ∧ gI τ c 9 = 0 ∧ gI τ c 10 = 0) ∧ gR τ c 6 = (if 0 ≤ kB x then some (cf (kB x).toNat) else none)) (ex : x = (S, (a : Int), kB x, F, 1, 0)) (hb : kB x < (N : Int)) (hB : ∀ j, j < N → kB (K j) < (j : Int)) :
    KC τ (fun k => if k = N then c else cf k) (upK K N x) (N + 1) (fun k => if k = N then false else D k) := fun k hkN => by
  obtain ⟨f1, f2, f3, f4⟩ := fr
  by_cases e : k = N
  · subst e
    rw [up_e]
    have ec : (if k = k then c else cf k) = c := if_pos rfl
    show (isSt τ (if k = k then c else cf k) ∧ stC (if k = k then c else cf k)) ∧ CSt τ (if k = k then c else cf k) (kS x) ∧ (gI τ (if k = k then c else cf k) 5 = kA x ∧ gI τ (if k = k then c else cf k) 7 = kF x ∧ gI τ (if k = k then c else cf k) 9 = kL x ∧ gI τ (if k = k then c else cf k) 10 = (if (if k = k then false else D k) = true then 1 else 0)) ∧ gR τ (if k = k then c else cf k) 6 = (if 0 ≤ kB x then some (if (kB x).toNat = k then c else cf (kB x).toNat) else none)
    rw [ec, if_pos rfl, if_neg (by decide), ex]
    obtain ⟨c1, ⟨c5, c7, c9, c10⟩, c6⟩ := n2
    refine ⟨⟨n1.1, cl_s n1.2⟩, c1, ⟨c5, c7, c9, c10⟩, ?_⟩
    show gR τ c 6 = (if 0 ≤ kB x then some (if (kB x).toNat = k then c else cf (kB x).toNat) else none)
    rw [c6]
    by_cases z : 0 ≤ kB x
    · rw [if_pos z, if_pos z, if_neg (show ¬ (kB x).toNat = k by omega)]
    · rw [if_neg z, if_neg z]
  · have hk2 : k < N := by omega
    obtain ⟨⟨a1, ac⟩, a2, ⟨a5, a7, a9, a10⟩, a6⟩ := hK k hk2
    have s1 : slR σ (2 + k) = some (cf k) := (sR_kp (by omega)).trans (hk k hk2)
    have d := far (2 + k) (cf k) (by omega) (by omega) s1
    have dh := po.2 (2 + k) 0 _ _ (by omega) (by decide) (by omega) s1 (sR_z.trans h14)
    have bk := hB k hk2
    rw [up_n e]
    show (isSt τ (if k = N then c else cf k) ∧ stC (if k = N then c else cf k)) ∧ CSt τ (if k = N then c else cf k) (kS (K k)) ∧ (gI τ (if k = N then c else cf k) 5 = kA (K k) ∧ gI τ (if k = N then c else cf k) 7 = kF (K k) ∧ gI τ (if k = N then c else cf k) 9 = kL (K k) ∧ gI τ (if k = N then c else cf k) 10 = (if (if k = N then false else D k) = true then 1 else 0)) ∧ gR τ (if k = N then c else cf k) 6 = (if 0 ≤ kB (K k) then some (if (kB (K k)).toNat = N then c else cf (kB (K k)).toNat) else none)
    rw [if_neg e, if_neg e]
    have g : ∀ q s, cf k ≤ q → q < cf k + 4 → gI τ q s = gI σ q s := fun q s h1 h2 => f1 q s (by omega) (by omega) (by omega)
    refine ⟨⟨st_kd (fun q h1 h2 => f4 q (by omega)) a1, ac⟩, CSt_q (fun s => g _ _ (by omega) (by omega)) (fun s => g _ _ (by omega) (by omega)) (fun s => g _ _ (by omega) (by omega)) (fun s => f2 _ _ (by omega)) a2, ⟨(g _ _ (by omega) (by omega)).trans a5, (g _ _ (by omega) (by omega)).trans a7, (g _ _ (by omega) (by omega)).trans a9, (g _ _ (by omega) (by omega)).trans a10⟩, ?_⟩
    rw [f3 (cf k) 6 (by omega) (by omega) (by omega) (by omega) (fun _ => by omega) (fun y _ => by omega), a6]
    by_cases z : 0 ≤ kB (K k)
    · rw [if_pos z, if_pos z, if_neg (show ¬ (kB (K k)).toNat = N by omega)]
    · rw [if_neg z, if_neg z]
theorem kp_KF {c : Nat} {a : Nat} (po : POOL σ) (N250 : N < 250) (h14 : gR σ 39 14 = some hc) (hk : ∀ k, k < N → gR σ 58 k = some (cf k)) (hK : ∀ k, k < N → stC (cf k)) (hF : KF σ cf K N) (far : ∀ s x, s < 312 → ¬ s = 2 + N → slR σ s = some x → c + 3 < x ∨ x + 3 < c) (hcc : isCl c) (fr : kpq τ σ c hc N a ((lnd (fun j => decide (kA (K j) = (a : Int))) N).map cf))
    (r8 : gR τ c 8 = none) (rx : ∀ x, (lnd (fun j => decide (kA (K j) = (a : Int))) N).map cf = some x → gR τ x 8 = some c) (ha : kA x = (a : Int)) :
    KF τ (fun k => if k = N then c else cf k) (upK K N x) (N + 1) := fun k hkN => by
  obtain ⟨f1, f2, f3, f4⟩ := fr
  by_cases e : k = N
  · subst e
    rw [show k + 1 - (k + 1) = 0 by omega]
    show gR τ (if k = k then c else cf k) 8 = none
    rw [if_pos rfl]
    exact r8
  · have hk2 : k < N := by omega
    have s1 : slR σ (2 + k) = some (cf k) := (sR_kp (by omega)).trans (hk k hk2)
    have d := far (2 + k) (cf k) (by omega) (by omega) s1
    have dh := po.2 (2 + k) 0 _ _ (by omega) (by decide) (by omega) s1 (sR_z.trans h14)
    have ck := hK k hk2
    rw [kf_s hk2 ha]
    show gR τ (if k = N then c else cf k) 8 = _
    rw [if_neg e]
    have bd : ∀ y, fnd (fun j => decide (kA (K j) = kA (K k))) (N - (k + 1)) (k + 1) = some y → y < N := fun y z => by
      have := fnd_b _ _ z
      omega
    have hFk := hF k hk2
    generalize hv : fnd (fun j => decide (kA (K j) = kA (K k))) (N - (k + 1)) (k + 1) = v at *
    -- it was the last of its word
    have last : v = none → kA (K k) = (a : Int) → (lnd (fun j => decide (kA (K j) = (a : Int))) N).map cf = some (cf k) := fun z ea => by
      rw [lnd_of (k := k) N hk2 (decide_eq_true ea) (fun j h1 h2 => by
        have := fnd_no _ _ (hv.trans z) j (by omega) (by omega)
        rw [← ea]
        exact this)]
      rfl
    have notl : ¬ (v = none ∧ kA (K k) = (a : Int)) → ∀ y, (lnd (fun j => decide (kA (K j) = (a : Int))) N).map cf = some y → ¬ y = cf k := fun z y ey eyk => by
      obtain ⟨m, em, emy⟩ := Option.map_eq_some_iff.mp ey
      obtain ⟨m1, m2⟩ := lnd_b _ em
      have mk : m = k := Classical.byContradiction fun ne => by
        have := po.2 (2 + m) (2 + k) _ _ (by omega) (by omega) (by omega) ((sR_kp (by omega)).trans (hk m m1)) s1
        rw [emy, eyk] at this
        omega
      rw [mk] at em m2
      have ea : kA (K k) = (a : Int) := of_decide_eq_true m2
      refine z ⟨?_, ea⟩
      rw [← hv]
      refine fnd_all _ _ (fun j h1 h2 => ?_)
      have := lnd_no _ em j (by omega) (by omega)
      rw [ea]
      exact this
    by_cases z : v = none ∧ kA (K k) = (a : Int)
    · have e1 := last z.1 z.2
      rw [z.1, rx _ e1]
      show some c = Option.map (fun k => if k = N then c else cf k) (if kA (K k) = (a : Int) then some N else none)
      rw [if_pos z.2]
      show some c = some (if N = N then c else cf N)
      rw [if_pos rfl]
    · have nl := notl z
      rw [f3 (cf k) 8 (by omega) (by omega) (by omega) (by omega) (fun _ => by omega) (fun y ey q => nl y ey q.1.symm), hFk]
      cases v with
      | some y =>
        show some (cf y) = some (if y = N then c else cf y)
        rw [if_neg (by have := bd y rfl; omega)]
      | none =>
        have ne : ¬ kA (K k) = (a : Int) := fun q => z ⟨rfl, q⟩
        show none = Option.map (fun k => if k = N then c else cf k) (if kA (K k) = (a : Int) then some N else none)
        rw [if_neg ne]
        rfl
theorem kp_fl {c : Nat} {a b : Nat} (hcc : isCl c) (hK : ∀ k, k < N → stC (cf k)) (hch : isCl hc) (h60 : ∀ b : Nat, b < 200 → gR σ 60 b = (fnd (fun j => decide (kA (K j) = (b : Int))) N 0).map cf ∧ gR σ 61 b = (lnd (fun j => decide (kA (K j) = (b : Int))) N).map cf) (fr : kpq τ σ c hc N a ((lnd (fun j => decide (kA (K j) = (a : Int))) N).map cf))
    (r1 : gR τ 61 a = some c) (r0 : (lnd (fun j => decide (kA (K j) = (a : Int))) N).map cf = none → gR τ 60 a = some c) (ha : kA x = (a : Int)) (hb : b < 200) : gR τ 60 b = (fnd (fun j => decide (kA (upK K N x j) = (b : Int))) (N + 1) 0).map (fun k => if k = N then c else cf k) ∧ gR τ 61 b = (lnd (fun j => decide (kA (upK K N x j) = (b : Int))) (N + 1)).map (fun k => if k = N then c else cf k) := by
  obtain ⟨f1, f2, f3, f4⟩ := fr
  unfold isCl at hcc hch
  have nx : ∀ y, (lnd (fun j => decide (kA (K j) = (a : Int))) N).map cf = some y → ¬ y = 60 ∧ ¬ y = 61 := fun y e => by
    obtain ⟨m, em, emy⟩ := Option.map_eq_some_iff.mp e
    have := hK m (lnd_b _ em).1
    omega
  have b1 : ∀ y, fnd (fun j => decide (kA (K j) = (b : Int))) N 0 = some y → y < N := fun y z => by
    have := fnd_b _ _ z
    omega
  have b2' : ∀ y, lnd (fun j => decide (kA (K j) = (b : Int))) N = some y → y < N := fun y z => (lnd_b _ z).1
  obtain ⟨h0, h1⟩ := h60 b hb
  rw [kf_f ha, kf_l ha]
  have fl := fnd_lnd (P := fun j => decide (kA (K j) = (a : Int))) N
  by_cases e : a = b
  · subst e
    rw [if_pos rfl, if_pos rfl]
    refine ⟨?_, ?_⟩
    · cases hv : fnd (fun j => decide (kA (K j) = (a : Int))) N 0 with
      | none =>
        show gR τ 60 a = some (if N = N then c else cf N)
        rw [if_pos rfl]
        refine r0 ?_
        rw [fl.mp hv]
        rfl
      | some y =>
        show gR τ 60 a = some (if y = N then c else cf y)
        rw [if_neg (by have := b1 y hv; omega)]
        have ln : ¬ (lnd (fun j => decide (kA (K j) = (a : Int))) N).map cf = none := fun z => by
          rw [Option.map_eq_none_iff] at z
          rw [fl.mpr z] at hv
          cases hv
        rw [f3 60 a (by omega) (by omega) (by omega) (by omega) (fun z => absurd z ln) (fun y' e => by have := nx y' e; omega), h0, hv]
        rfl
    · show gR τ 61 a = some (if N = N then c else cf N)
      rw [if_pos rfl]
      exact r1
  · have e' : ¬ (a : Int) = (b : Int) := by omega
    rw [if_neg e', if_neg e', f3 60 b (by omega) (by omega) (by omega) (by omega) (fun _ => by omega) (fun y' z => by have := nx y' z; omega), f3 61 b (by omega) (by omega) (by omega) (by omega) (fun _ => by omega) (fun y' z => by have := nx y' z; omega), h0, h1]
    refine ⟨?_, ?_⟩
    · cases hv : fnd (fun j => decide (kA (K j) = (b : Int))) N 0 with
      | none => rfl
      | some y =>
        show some (cf y) = some (if y = N then c else cf y)
        rw [if_neg (by have := b1 y hv; omega)]
    · cases hv : lnd (fun j => decide (kA (K j) = (b : Int))) N with
      | none => rfl
      | some y =>
        show some (cf y) = some (if y = N then c else cf y)
        rw [if_neg (by have := b2' y hv; omega)]
end CKPW
-- FILE 99m.ckp3
/-! ===== the class's walk against the pure walk: keep ===== -/
section CKP3
variable {τ σ ρ : MS} {cf wf cf' : Nat → Nat} {D : Nat → Bool} {hc q s k j a sc : Nat} {w : WK} {C B n F b G T : Int} {S : ST} {K K' : Nat → KT} {x : KT} {N M : Nat} {W : Nat → WT} {R : Int × Int × (Int → Option ST)} {E : EV} {t : Int}
/-- the frame of keep -/
theorem kp_cwq {c : Nat} {l : Option Nat} (po : POOL σ) (N250 : N < 250) (h14 : gR σ 39 14 = some hc) (hl : ∀ x, l = some x → ∃ k, k < 250 ∧ gR σ 58 k = some x) (fr : kpq τ σ c hc N a l) (r58 : gR τ 58 N = some c) (pn : PCN τ C) (pg : pgr τ σ) : cwq τ σ := by
  obtain ⟨f1, f2, f3, f4⟩ := fr
  have nc : ∀ q, oth σ q → ¬ (c ≤ q ∧ q < c + 4) := fun q o => (pgr_o pg pn o).2 (2 + N) c (by omega) ((sR_kp N250).trans r58)
  have nh : ∀ q, oth σ q → ¬ q = hc := fun q o e => o.2 0 hc (by decide) (sR_z.trans h14) (by omega)
  refine ⟨fun q s o p => ⟨f1 q s (nc q o) (fun z => nh q o z.1) (by omega), f2 q s (nc q o), f3 q s (nc q o) (by omega) (fun z => nh q o z.1) (by omega) (fun _ => by omega) (fun y ey z => ?_)⟩, fun q o => f4 q (nc q o), pg⟩
  obtain ⟨k, hk, ek⟩ := hl y ey
  exact o.2 (2 + k) y (by omega) ((sR_kp hk).trans ek) (by omega)
theorem cha_k (h1 : wfB K N) (hk : k < N) (hb : kB x = (k : Int)) : cha (upK K N x) N = N :: cha K k := by
  have g : ∀ j, j < N → upK K N x j = K j := fun j hj => if_neg (by omega)
  have gn : upK K N x N = x := if_pos rfl
  have wf : wfB (upK K N x) (N + 1) := fun j hj => by
    by_cases e : j = N
    · rw [e, gn, hb]
      omega
    · rw [g j (by omega)]
      exact h1 j (by omega)
  have ce : ∀ k : Nat, k < N → cha (upK K N x) k = cha K k := by
    intro k
    induction k using Nat.strongRecOn with
    | ind k ih =>
      intro hk
      by_cases z : 0 ≤ kB (K k)
      · have w' := h1 k hk
        have z' : 0 ≤ kB (upK K N x k) := by rw [g k hk]; exact z
        rw [cha_c wf (by omega) z', cha_c h1 hk z, g k hk, ih (kB (K k)).toNat (by omega) (by omega)]
      · rw [cha_n (K := upK K N x) (by rw [g k hk]; exact z), cha_n z]
  rw [cha_c wf (by omega) (by rw [gn, hb]; omega), gn, hb, Int.toNat_natCast, ce _ hk]
/-- keep, from what is so of a store -/
theorem cw_kp (po : POOL σ) (pn : PCN σ C) (h15 : gR σ 39 15 = some sc) (h14 : gR σ 39 14 = some hc) (N250 : N < 250) (hk : ∀ k, k < N → gR σ 58 k = some (cf k)) (hK : KC σ cf K N D) (hF : KF σ cf K N) (hB : ∀ j, j < N → kB (K j) < (j : Int)) (hb : b < (N : Int)) (hb0 : N = 0 → b < 0)
    (h60 : ∀ b : Nat, b < 200 → gR σ 60 b = (fnd (fun j => decide (kA (K j) = (b : Int))) N 0).map cf ∧ gR σ 61 b = (lnd (fun j => decide (kA (K j) = (b : Int))) N).map cf) (hW : CWw σ cf wf w) (hM : yM w ≤ 60) (hWk : ∀ j, j < yM w → wtK (yW w j) < N)
    (cS : CSt σ hc S) (g5 : gI σ hc 5 = (a : Int)) (g7 : gI σ hc 7 = F) (g6 : gR σ hc 6 = (if 0 ≤ b then some (cf b.toNat) else none)) (ha : a < 200) (F1 : 1 ≤ sF S ∧ sF S ≤ 4) (hH : (sH S).length ≤ 64) (h11 : gI σ 39 11 = (yM w : Int)) (f1 : gI σ 51 1 = G) (f2 : gI σ 51 2 = (N : Int)) (f4 : gI σ 51 4 = w.2.2.2.1) (f5 : gI σ 51 5 = w.2.2.2.2.1) (f8 : gI σ 40 8 = T) (kn : KNc σ w.2.2.2.2.2)
    (hD : ∀ x, x < N + 1 → ((if x = N then false else D x) = true ↔ ¬ x ∈ cha (upK K N (S, (a : Int), b, F, 1, 0)) N)) (df : dfI ((S, (a : Int), N, 0, G, T), (N + 1, upK K N (S, (a : Int), b, F, 1, 0)), w.2.2)) :
    okc (MM 38 [mR (some 39)] σ) none (fun τ => cwq τ σ ∧ gI τ 51 0 = gI σ 51 0 ∧ CW τ C ((S, (a : Int), N, 0, G, T), (N + 1, upK K N (S, (a : Int), b, F, 1, 0)), w.2.2)) := by
  have hl : ∀ x, gR σ hc 6 = some x → ∃ k, k < 250 ∧ ¬ k = N ∧ gR σ 58 k = some x := fun x e => by
    rw [g6] at e
    by_cases z : 0 ≤ b
    · rw [if_pos z] at e
      exact ⟨b.toNat, by omega, by omega, by rw [← e]; exact hk _ (by omega)⟩
    · rw [if_neg z] at e
      cases e
  obtain ⟨h0, h1⟩ := h60 a ha
  have hl2 : ∀ x, (lnd (fun j => decide (kA (K j) = (a : Int))) N).map cf = some x → ∃ k, k < 250 ∧ ¬ k = N ∧ gR σ 58 k = some x := fun x e => by
    obtain ⟨m, em, emy⟩ := Option.map_eq_some_iff.mp e
    have l := (lnd_b _ em).1
    exact ⟨m, by omega, by omega, by rw [hk m l, emy]⟩
  obtain ⟨c, τ, t, ⟨r58, n1, n2⟩, ⟨c1, ⟨c5, c7, c9, c10⟩, c6, c8⟩, ⟨d6, d7, d2⟩, ⟨e1, e0, ex⟩, fr, ⟨po', pn', pg'⟩, so, far⟩ := T38 po pn N250 f2 h14 cS F1 hH hl ha g5 h1 hl2
  have hcl := (po.1 0 hc (by decide) (sR_z.trans h14)).2
  have fr' := fr
  obtain ⟨u1, u2, u3, u4⟩ := fr
  have hcl' := hcl
  unfold isCl at hcl'
  have n2' := n2
  unfold isCl at n2'
  have sk : ∀ k, k < N → stC (cf k) := fun k h => (hK k h).1.2
  have ndx : ∀ y, (lnd (fun j => decide (kA (K j) = (a : Int))) N).map cf = some y → ¬ y = 39 ∧ ¬ y = 58 ∧ ¬ y = 59 := fun y e => by
    obtain ⟨m, em, emy⟩ := Option.map_eq_some_iff.mp e
    have := sk m (lnd_b _ em).1
    omega
  have r3 : ∀ q s, (q = 39 ∨ q = 59 ∨ (q = 58 ∧ ¬ s = N)) → gR τ q s = gR σ q s := fun q s h => u3 q s (by omega) (by omega) (by omega) (by omega) (fun _ => by omega) (fun y e => by have := ndx y e; omega)
  have dh := far 0 hc (by decide) (by omega) (sR_z.trans h14)
  have ns : CSt τ hc S := CSt_h (u1 _ _ (by omega) (by omega) (by omega)) (u1 _ _ (by omega) (by omega) (by omega)) (fun s => u1 _ _ (by omega) (by omega) (by omega)) (fun s => u1 _ _ (by omega) (by omega) (by omega)) (fun s => u2 _ _ (by omega)) cS
  have i51 : ∀ s, ¬ s = 2 → gI τ 51 s = gI σ 51 s := fun s h => u1 _ _ (by omega) (by omega) (by omega)
  have ex' : kA ((S, (a : Int), b, F, 1, 0) : KT) = (a : Int) := rfl
  refine okc_o (τ := τ) t ⟨kp_cwq po N250 h14 (fun x e => by
    obtain ⟨k, p1, _, p3⟩ := hl2 x e
    exact ⟨k, p1, p3⟩) fr' r58 pn' pg', i51 0 (by decide), fun k => if k = N then c else cf k, wf, fun k => if k = N then false else D k, hc, ⟨df, ⟨po', pn', sc, (r3 _ _ (Or.inl rfl)).trans h15⟩, ⟨fun k hkN => ?_, ⟨?_, ?_⟩, hD, fun b' hb' => ?_⟩, fun j hj => ?_, ⟨(r3 _ _ (Or.inl rfl)).trans h14, d7, ?_⟩, ?_, ⟨⟨(i51 _ (by decide)).trans f1, d2, (i51 _ (by decide)).trans f4, (i51 _ (by decide)).trans f5⟩, (u1 _ _ (by omega) (by omega) (by omega)).trans f8, KN_c (fun s => u1 _ _ (by omega) (by omega) (by omega)) (fun s => u2 _ _ (by omega)) kn⟩⟩, ns, (u1 _ _ (by omega) (by omega) (by omega)).trans g5⟩
  · have hkN : k < N + 1 := hkN
    show gR τ 58 k = some (if k = N then c else cf k)
    by_cases e : k = N
    · rw [if_pos e, e]
      exact r58
    · rw [if_neg e, r3 _ _ (by omega)]
      exact hk k (by omega)
  · exact kp_KC (F := F) (a := a) (x := (S, (a : Int), b, F, 1, 0)) po N250 h14 hk hK far fr' ⟨n1, n2⟩ ⟨c1, ⟨c5, c7.trans g7, c9, c10⟩, c6.trans g6⟩ rfl hb hB
  · exact kp_KF (a := a) (x := (S, (a : Int), b, F, 1, 0)) po N250 h14 hk sk hF far n2 fr' c8 ex ex'
  · exact kp_fl (x := (S, (a : Int), b, F, 1, 0)) n2 sk hcl h60 fr' e1 e0 ex' hb'
  · have hj : j < yM w := hj
    obtain ⟨⟨v1, v2⟩, v3, v4, v5⟩ := hW j hj
    have sj : slR σ (252 + j) = some (wf j) := sR_wt.trans v1
    have dj := far (252 + j) (wf j) (by omega) (by omega) sj
    have djh := po.2 (252 + j) 0 _ _ (by omega) (by decide) (by omega) sj (sR_z.trans h14)
    have cj := (po.1 _ _ (by omega) sj).2
    unfold isCl at cj
    have gi : ∀ q s, wf j ≤ q → q < wf j + 4 → gI τ q s = gI σ q s := fun q s h1 h2 => u1 q s (by omega) (by omega) (by omega)
    have lk := hWk j hj
    refine ⟨⟨(r3 _ _ (by omega)).trans v1, CSt_q (fun s => gi _ _ (by omega) (by omega)) (fun s => gi _ _ (by omega) (by omega)) (fun s => gi _ _ (by omega) (by omega)) (fun s => u2 _ _ (by omega)) v2⟩, (gi _ _ (by omega) (by omega)).trans v3, (gi _ _ (by omega) (by omega)).trans v4, ?_⟩
    show gR τ (wf j) 6 = some (if wtK (yW w j) = N then c else cf (wtK (yW w j)))
    rw [if_neg (by omega), u3 (wf j) 6 (by omega) (by omega) (by omega) (by omega) (fun _ => by omega) (fun y _ => by omega)]
    exact v5
  · show gR τ hc 6 = some (if N = N then c else cf N)
    rw [if_pos rfl]
    exact d6
  · exact (u1 _ _ (by omega) (by omega) (by omega)).trans h11
/-- a state is kept -/
theorem cw_keep (h : CWx σ C cf wf D hc w) (hh : CWh σ w hc) (hn : yNn w < 250) (hB : KB (yH w) (yNn w) B) (F1 : 1 ≤ sF (yS w) ∧ sF (yS w) ≤ 4) (hH : (sH (yS w)).length ≤ 64) (ha : 0 ≤ yA w ∧ yA w < 200) :
    okc (MM 38 [mR (some 39)] σ) none (fun τ => cwq τ σ ∧ gI τ 51 0 = gI σ 51 0 ∧ CW τ C ((yS w, yA w, yNn w, 0, yG w, yT w), (yNn w + 1, upK (yH w) (yNn w) (yS w, yA w, (yK w : Int), yF w, 1, 0)), w.2.2)) := by
  obtain ⟨df, ⟨po, pn, sc, h15⟩, ⟨k1, ⟨k2, k3⟩, k4, k5⟩, hw, ⟨l1, l2, l3⟩, h11, ⟨⟨f1, f2, f4, f5⟩, f8, fk⟩⟩ := h
  obtain ⟨a, ea⟩ : ∃ a : Nat, yA w = (a : Int) := ⟨(yA w).toNat, by omega⟩
  have yk := df.2.1.1
  have dk := df_k (x := (yS w, yA w, (yK w : Int), yF w, 1, 0)) (s := yS w) (i := yA w) (F := 0) (G := yG w) (T := yT w) (R := w.2.2.2) df hn rfl rfl
  rw [ea] at dk ⊢
  refine cw_kp (b := (yK w : Int)) po pn h15 l1 hn k1 k2 k3 df.1 (by omega) (fun z => by omega) k5 hw df.2.1.2.2 (fun j hj => df.2.2.2.1 j hj) hh.1 (hh.2.trans ea) l2 ?_ (by omega) F1 hH h11 f1 f2 f4 f5 f8 fk (fun x hx => ?_) dk
  · rw [if_pos (Int.natCast_nonneg _), Int.toNat_natCast]
    exact l3
  · rw [cha_k df.1 yk rfl]
    by_cases e : x = yNn w
    · rw [if_pos e, e]
      exact ⟨fun z => (by cases z), fun z => absurd List.mem_cons_self z⟩
    · rw [if_neg e, k4 x (by omega)]
      exact ⟨fun z q => by
        rcases List.mem_cons.mp q with r | r
        · exact e r
        · exact z r, fun z q => z (List.mem_cons_of_mem _ q)⟩
end CKP3
