/-! ===== the class's walk: its cells; a way ends (endWay) ===== -/
def isCl (c : Nat) : Prop := c = 62 ∨ c = 66 ∨ 153 ≤ c
/-- the places that hold states: here, spare, kept, waiting -/
def slR (σ : MS) (s : Nat) : Option Nat := if s = 0 then gR σ 39 14 else if s = 1 then gR σ 39 15 else if s < 252 then gR σ 58 (s - 2) else gR σ 59 (s - 252)
/-- each state is in one place, and has its own cells -/
def POOL (σ : MS) : Prop := (∀ s c, s < 312 → slR σ s = some c → isSt σ c ∧ isCl c) ∧ ∀ s s' c c', s < 312 → s' < 312 → ¬ s = s' → slR σ s = some c → slR σ s' = some c' → c + 3 < c' ∨ c' + 3 < c
section CEND
variable {τ σ ρ : MS} {cf wf : Nat → Nat} {K : Nat → KT} {N M k j hc : Nat} {D : Nat → Bool} {S : ST} {E : EV} {t n F C : Int}
theorem cl_s {c : Nat} (h : isCl c) : stC c := by
  unfold isCl at h
  show c = 62 ∨ c = 66 ∨ 153 ≤ c
  omega
theorem sR_z : slR σ 0 = gR σ 39 14 := rfl
theorem sR_o : slR σ 1 = gR σ 39 15 := rfl
theorem sR_kp (h : k < 250) : slR σ (2 + k) = gR σ 58 k := by
  unfold slR
  rw [if_neg (by omega), if_neg (by omega), if_pos (by omega), Nat.add_sub_cancel_left]
theorem sR_wt : slR σ (252 + k) = gR σ 59 k := by
  unfold slR
  rw [if_neg (by omega), if_neg (by omega), if_neg (by omega), Nat.add_sub_cancel_left]
theorem po_KD (h : POOL σ) (hN : N ≤ 250) (hk : ∀ k, k < N → gR σ 58 k = some (cf k)) : KD cf N := fun k k' h1 h2 e => h.2 (2 + k) (2 + k') (cf k) (cf k') (by omega) (by omega) (by omega) ((sR_kp (by omega)).trans (hk k h1)) ((sR_kp (by omega)).trans (hk k' h2))
/-- how many cells were made: C and four for each place that holds one -/
def PCN (σ : MS) (C : Int) : Prop := (∀ s c, s < 312 → slR σ s = some c → c + 3 < nC σ) ∧ 153 ≤ nC σ ∧ ((nC σ : Int) ≤ C + 4 * cnt 312 (fun s => (slR σ s).isSome) ∧ (tS σ : Int) ≤ 4800 * (C - 153) + 1267 * cnt 312 (fun s => (slR σ s).isSome)) ∧ C ≤ 900000
/-- a place's cell was in a place before, or is new -/
def pgr (τ σ : MS) : Prop := nC σ ≤ nC τ ∧ ∀ s c, s < 312 → slR τ s = some c → nC σ ≤ c ∨ ∃ s', s' < 312 ∧ slR σ s' = some c
/-- no cell of a place -/
def oth (σ : MS) (q : Nat) : Prop := (q < nC σ ∨ 1000000 ≤ q) ∧ ∀ s c, s < 312 → slR σ s = some c → ¬ (c ≤ q ∧ q < c + 4)
theorem pn_lt (h : PCN σ C) : nC σ + 4 ≤ 1000000 := by
  obtain ⟨_, _, h3, h4⟩ := h
  have := cnt_le (fun s => (slR σ s).isSome) 312
  omega
theorem pgr_r (σ : MS) : pgr σ σ := ⟨Nat.le_refl _, fun s c hs e => Or.inr ⟨s, hs, e⟩⟩
theorem pgr_t {a b c : MS} (h1 : pgr a b) (h2 : pgr b c) : pgr a c := ⟨Nat.le_trans h2.1 h1.1, fun s x hs e => by
  rcases h1.2 s x hs e with l | ⟨s', hs', e'⟩
  · exact Or.inl (Nat.le_trans h2.1 l)
  · exact h2.2 s' x hs' e'⟩
theorem pgr_o {q : Nat} (g : pgr τ σ) (pn : PCN τ C) (h : oth σ q) : oth τ q := by
  refine ⟨?_, fun s c hs e => ?_⟩
  · have := g.1
    rcases h.1 with l | l
    · exact Or.inl (by omega)
    · exact Or.inr l
  · rcases g.2 s c hs e with l | ⟨s', hs', e'⟩
    · have := pn.1 s c hs e
      have := pn_lt pn
      have := h.1
      omega
    · exact h.2 s' c hs' e'
theorem nC_e (e : τ.2.2.2 = σ.2.2.2) : nC τ = nC σ := by
  unfold nC
  rw [e]
theorem tS_e (e : τ.2.2.2 = σ.2.2.2) : tS τ = tS σ := by
  unfold tS
  rw [e]
/-- the same places hold the same -/
theorem po_id (h : POOL σ) (e : ∀ s, s < 312 → slR τ s = slR σ s) (ek : τ.2.2.2 = σ.2.2.2) : POOL τ ∧ (∀ C, PCN σ C → PCN τ C) ∧ pgr τ σ := by
  have en := nC_e ek
  refine ⟨⟨fun s c hs q => ?_, fun s s' c c' hs hs' ne q q' => ?_⟩, fun C pn => ⟨fun s c hs q => ?_, ?_, ?_, pn.2.2.2⟩, ⟨?_, fun s c hs q => ?_⟩⟩
  · rw [e s hs] at q
    obtain ⟨y1, y2⟩ := h.1 _ _ hs q
    exact ⟨st_r3 ek y1, y2⟩
  · rw [e s hs] at q
    rw [e s' hs'] at q'
    exact h.2 _ _ _ _ hs hs' ne q q'
  · rw [e s hs] at q
    rw [en]
    exact pn.1 _ _ hs q
  · rw [en]
    exact pn.2.1
  · rw [en, tS_e ek, cnt_ext (p := fun s => (slR τ s).isSome) (q := fun s => (slR σ s).isSome) 312 (fun j hj => by rw [e j hj])]
    exact pn.2.2.1
  · rw [en]
    exact Nat.le_refl _
  · rw [e s hs] at q
    exact Or.inr ⟨s, hs, q⟩
/-- two places change what they hold -/
theorem po_sw2 {a b x y : Nat} (h : POOL σ) (ha : a < 312) (hb : b < 312) (hab : ¬ a = b) (e : ∀ s, s < 312 → ¬ s = a → ¬ s = b → slR τ s = slR σ s) (sa : slR σ a = some x) (sb : slR σ b = some y) (ea : slR τ a = some y) (eb : slR τ b = some x) (ek : τ.2.2.2 = σ.2.2.2) : POOL τ ∧ (∀ C, PCN σ C → PCN τ C) ∧ pgr τ σ := by
  have en := nC_e ek
  have sw : ∀ s, s < 312 → slR τ s = slR σ (if s = a then b else if s = b then a else s) := fun s hs => by
    by_cases s0 : s = a
    · rw [if_pos s0, s0, ea, sb]
    · rw [if_neg s0]
      by_cases s1 : s = b
      · rw [if_pos s1, s1, eb, sa]
      · rw [if_neg s1]
        exact e s hs s0 s1
  have lt : ∀ s, s < 312 → (if s = a then b else if s = b then a else s) < 312 := fun s hs => by
    split
    · omega
    · split <;> omega
  have inj : ∀ s s', (if s = a then b else if s = b then a else s) = (if s' = a then b else if s' = b then a else s') → s = s' := fun s s' q => by
    by_cases a1 : s = a
    · by_cases a2 : s' = a
      · omega
      · rw [if_pos a1, if_neg a2] at q
        by_cases b2' : s' = b
        · rw [if_pos b2'] at q
          omega
        · rw [if_neg b2'] at q
          omega
    · rw [if_neg a1] at q
      by_cases b1 : s = b
      · rw [if_pos b1] at q
        by_cases a2 : s' = a
        · rw [if_pos a2] at q
          omega
        · rw [if_neg a2] at q
          by_cases b2' : s' = b
          · omega
          · rw [if_neg b2'] at q
            omega
      · rw [if_neg b1] at q
        by_cases a2 : s' = a
        · rw [if_pos a2] at q
          omega
        · rw [if_neg a2] at q
          by_cases b2' : s' = b
          · rw [if_pos b2'] at q
            omega
          · rw [if_neg b2'] at q
            exact q
  have sm : ∀ s, s < 312 → (slR τ s).isSome = (slR σ s).isSome := fun s hs => by
    by_cases s0 : s = a
    · rw [s0, ea, sa]
      rfl
    · by_cases s1 : s = b
      · rw [s1, eb, sb]
        rfl
      · rw [e s hs s0 s1]
  refine ⟨⟨fun s c hs q => ?_, fun s s' c c' hs hs' ne q q' => ?_⟩, fun C pn => ⟨fun s c hs q => ?_, ?_, ?_, pn.2.2.2⟩, ⟨?_, fun s c hs q => ?_⟩⟩
  · rw [sw s hs] at q
    obtain ⟨y1, y2⟩ := h.1 _ _ (lt s hs) q
    exact ⟨st_r3 ek y1, y2⟩
  · rw [sw s hs] at q
    rw [sw s' hs'] at q'
    exact h.2 _ _ _ _ (lt s hs) (lt s' hs') (fun z => ne (inj _ _ z)) q q'
  · rw [sw s hs] at q
    rw [en]
    exact pn.1 _ _ (lt s hs) q
  · rw [en]
    exact pn.2.1
  · rw [en, tS_e ek, cnt_ext (p := fun s => (slR τ s).isSome) (q := fun s => (slR σ s).isSome) 312 sm]
    exact pn.2.2.1
  · rw [en]
    exact Nat.le_refl _
  · rw [sw s hs] at q
    exact Or.inr ⟨_, lt s hs, q⟩
/-- a place gets a new cell -/
theorem po_gen {π : Nat → Nat} {a : Nat} (h : POOL σ) (pn : PCN σ C) (hπ : ∀ s, s < 312 → π s < 312) (hi : ∀ s s', s < 312 → s' < 312 → ¬ s = a → ¬ s' = a → π s = π s' → s = s') (e : ∀ s, s < 312 → ¬ s = a → slR τ s = slR σ (π s)) (ea : slR τ a = some (nC σ)) (kn : nC τ = nC σ + 4 ∧ tS τ = tS σ + 1267) (kr : ∀ q, ¬ (nC σ ≤ q ∧ q < nC σ + 4) → kd τ q = kd σ q) (sn : isSt τ (nC σ)) (ct : cnt 312 (fun s => (slR τ s).isSome) = cnt 312 (fun s => (slR σ s).isSome) + 1) : POOL τ ∧ PCN τ C ∧ pgr τ σ := by
  have old : ∀ s c, s < 312 → ¬ s = a → slR τ s = some c → c + 3 < nC σ ∧ isSt τ c ∧ isCl c := fun s c hs hn q => by
    rw [e s hs hn] at q
    have l := pn.1 _ _ (hπ s hs) q
    obtain ⟨y1, y2⟩ := h.1 _ _ (hπ s hs) q
    refine ⟨l, ?_, y2⟩
    unfold isSt at y1 ⊢
    rw [kr c (by omega), kr (c + 1 + 0) (by omega), kr (c + 1 + 1) (by omega), kr (c + 1 + 2) (by omega)]
    exact y1
  refine ⟨⟨fun s c hs q => ?_, fun s s' c c' hs hs' ne q q' => ?_⟩, ⟨fun s c hs q => ?_, ?_, ?_, pn.2.2.2⟩, ⟨by omega, fun s c hs q => ?_⟩⟩
  · by_cases sa : s = a
    · rw [sa, ea] at q
      rw [← Option.some.inj q]
      exact ⟨sn, Or.inr (Or.inr pn.2.1)⟩
    · exact (old s c hs sa q).2
  · by_cases sa : s = a
    · rw [sa, ea] at q
      have q := Option.some.inj q
      have := (old s' c' hs' (fun z => ne (by omega)) q').1
      omega
    · have l1 := (old s c hs sa q).1
      by_cases sb : s' = a
      · rw [sb, ea] at q'
        have q' := Option.some.inj q'
        omega
      · rw [e s hs sa] at q
        rw [e s' hs' sb] at q'
        exact h.2 _ _ _ _ (hπ s hs) (hπ s' hs') (fun z => ne (hi s s' hs hs' sa sb z)) q q'
  · by_cases sa : s = a
    · rw [sa, ea] at q
      have q := Option.some.inj q
      omega
    · have := (old s c hs sa q).1
      omega
  · have := pn.2.1
    omega
  · have := pn.2.2.1
    rw [ct]
    omega
  · by_cases sa : s = a
    · rw [sa, ea] at q
      have q := Option.some.inj q
      exact Or.inl (by omega)
    · rw [e s hs sa] at q
      exact Or.inr ⟨_, hπ s hs, q⟩
theorem po_sw {m wm : Nat} (h : POOL σ) (hm : m < 60) (h0 : gR σ 39 14 = some hc) (h1 : gR σ 59 m = some wm) (e : ∀ q s, ¬ (q = 39 ∧ s = 14) → ¬ (q = 59 ∧ s = m) → gR τ q s = gR σ q s) (e0 : gR τ 39 14 = some wm) (e1 : gR τ 59 m = some hc) (ek : τ.2.2.2 = σ.2.2.2) : POOL τ ∧ (∀ C, PCN σ C → PCN τ C) ∧ pgr τ σ :=
  po_sw2 (a := 0) (b := 252 + m) h (by decide) (by omega) (by omega) (fun s hs s0 s1 => by
    unfold slR
    rw [if_neg s0, if_neg s0]
    by_cases a : s = 1
    · rw [if_pos a, if_pos a]
      exact e _ _ (by omega) (by omega)
    · rw [if_neg a, if_neg a]
      by_cases b : s < 252
      · rw [if_pos b, if_pos b]
        exact e _ _ (by omega) (by omega)
      · rw [if_neg b, if_neg b]
        exact e _ _ (by omega) (by omega)) (sR_z.trans h0) (sR_wt.trans h1) (sR_z.trans e0) (sR_wt.trans e1) ek
/-- what the end of a way may change, beside what is kept -/
def ewq (τ σ : MS) (cf : Nat → Nat) (N m : Nat) : Prop := (∀ q s, (¬ (s = 9 ∨ s = 10) ∨ ∀ k, k < N → ¬ q = cf k) → ¬ (q = 39 ∧ s = 11) → ¬ (q = 51 ∧ s = 3) → gI τ q s = gI σ q s) ∧ (∀ q s, gL τ q s = gL σ q s) ∧ (∀ q s, ¬ (q = 39 ∧ s = 14) → ¬ (q = 59 ∧ s = m) → gR τ q s = gR σ q s) ∧ τ.2.2.2 = σ.2.2.2
/-- a way ends, and another one waits -/
theorem T39w {w : WK} {m : Nat} (df : dfI w) (po : POOL σ) (h14 : gR σ 39 14 = some hc) (hk : ∀ k, k < yNn w → gR σ 58 k = some (cf k)) (eM : yM w = m + 1) (h59 : gR σ 59 m = some (wf m)) (hK : KC σ cf (yH w) (yNn w) D) (hD : ∀ x, x < yNn w → (D x = true ↔ ¬ x ∈ cha (yH w) (yK w)))
    (h6 : gR σ hc 6 = some (cf (yK w))) (h7 : gI σ hc 7 = F) (hB : KB (yH w) (yNn w) C) (hC : 0 ≤ C ∧ C ≤ 50000) (hF : 0 ≤ F + n ∧ F + n ≤ C + 4000) (h11 : gI σ 39 11 = (yM w : Int)) (hw6 : gR σ (wf m) 6 = some (cf (yW w m).2.2.1)) :
    okc (MM 39 [mR (some 39), mI n] σ) (some (mI 1)) (fun τ => (∃ D1, KC τ cf (endK (yH w) (yK w) (F + n)) (yNn w) D1 ∧ ∀ x, x < yNn w → (D1 x = true ↔ ¬ x ∈ cha (endK (yH w) (yK w) (F + n)) (yW w m).2.2.1)) ∧ (POOL τ ∧ (∀ C, PCN σ C → PCN τ C) ∧ pgr τ σ) ∧ (gR τ 39 14 = some (wf m) ∧ gR τ 59 m = some hc ∧ gI τ 39 11 = (m : Int)) ∧ ewq τ σ cf (yNn w) m) := by
  have N250 := df.2.1.2.1
  have m60 := df.2.1.2.2
  have yk := df.2.1.1
  have hd := po_KD po N250 hk
  have sh := (po.1 0 hc (by decide) (sR_z.trans h14))
  have swm := po.1 (252 + m) (wf m) (by omega) (sR_wt.trans h59)
  have neq : ∀ k, k < yNn w → ¬ cf k = hc ∧ ¬ cf k = wf m ∧ ¬ cf k = 39 := fun k hk' => by
    have s1 : slR σ (2 + k) = some (cf k) := (sR_kp (by omega)).trans (hk k hk')
    have c1 := (po.1 _ _ (by omega) s1).2
    have d1 := po.2 (2 + k) 0 _ _ (by omega) (by decide) (by omega) s1 (sR_z.trans h14)
    have d2 := po.2 (2 + k) (252 + m) _ _ (by omega) (by omega) (by omega) s1 (sR_wt.trans h59)
    unfold isCl at c1
    omega
  have ch : isCl hc := sh.2
  have cw : isCl (wf m) := swm.2
  have nh : ¬ hc = 39 ∧ ¬ wf m = 39 := by
    unfold isCl at ch cw
    omega
  obtain ⟨⟨k1, kc⟩, k2, ⟨k5, k7, k9, k10⟩, k6⟩ := hK (yK w) yk
  have lL := df.2.2.2.1 m (by omega)
  -- the longest
  have K1 := KC_l (n := F + n) hd hK yk
  obtain ⟨σ1, e1⟩ : ∃ σ1, σ1 = sI σ (cf (yK w)) 9 (if kL (yH w (yK w)) < F + n then F + n else kL (yH w (yK w))) := ⟨_, rfl⟩
  rw [← e1] at K1
  have q1 : kcq σ1 σ cf (yNn w) := by rw [e1]; exact kcq_i yk (Or.inl rfl)
  have i11 : gI σ1 39 11 = (yM w : Int) := (q1.1 _ _ (Or.inl (by omega))).trans h11
  obtain ⟨σ2, e2⟩ : ∃ σ2, σ2 = sI σ1 39 11 (m : Int) := ⟨_, rfl⟩
  have K2 : KC σ2 cf (ovrK (yH w) (yK w) (F + n)) (yNn w) D := fun x hx => by
    obtain ⟨⟨a1, ac⟩, a2, ⟨a5, a7, a9, a10⟩, a6⟩ := K1 x hx
    have nx := (neq x hx).2.2
    have g : ∀ q s, ¬ q = 39 → gI σ2 q s = gI σ1 q s := fun q s h => by rw [e2, gI_sI, if_neg (fun z => h z.1)]
    refine ⟨⟨by rw [e2]; exact a1, ac⟩, CSt_q (fun s => g _ _ nx) (fun s => g _ _ (by omega)) (fun s => g _ _ (by omega)) (fun s => by rw [e2]; rfl) a2, ⟨(g _ _ nx).trans a5, (g _ _ nx).trans a7, (g _ _ nx).trans a9, (g _ _ nx).trans a10⟩, by rw [e2]; exact a6⟩
  have r2 : ∀ q s, gR σ2 q s = gR σ q s := fun q s => by
    rw [e2]
    show gR σ1 q s = gR σ q s
    rw [e1]
    rfl
  have st2 : isSt σ2 hc := by rw [e2, e1]; exact sh.1
  have B1 := ov_B hB yk hF hC.1
  obtain ⟨τ2, t40, K3, q3⟩ := T40 (u := some (yW w m).2.2.1) hd N250 (fun R e => by rw [← Option.some.inj e]; exact lL) K2 B1 yk (by omega) ((r2 _ _).trans h14) st2 ((r2 _ _).trans h6)
  have lu : lstW (yW w) (yM w) = some (yW w m).2.2.1 := by rw [eM]; rfl
  have ec := end_c (n := F + n) df
  rw [lu] at ec
  rw [← ec] at K3
  have r3 : ∀ q s, gR τ2 q s = gR σ q s := fun q s => by
    show τ2.2.2.1 q s = _
    rw [q3.2]
    exact r2 q s
  have l3 : ∀ q s, gL τ2 q s = gL σ q s := fun q s => by
    show τ2.2.1 q s = _
    rw [q3.2, e2, e1]
    rfl
  have d3 : τ2.2.2.2 = σ.2.2.2 := by rw [q3.2, e2, e1]; rfl
  have g11 : gI τ2 39 11 = (m : Int) := by
    rw [q3.1 _ _ (Or.inl (by omega)), e2, gI_sI, if_pos ⟨rfl, rfl⟩]
  obtain ⟨τ, eτ⟩ : ∃ τ, τ = sR (sR τ2 59 m (some hc)) 39 14 (some (wf m)) := ⟨_, rfl⟩
  have rτ : ∀ q s, ¬ (q = 39 ∧ s = 14) → ¬ (q = 59 ∧ s = m) → gR τ q s = gR σ q s := fun q s h1 h2 => by
    rw [eτ, gR_sR, if_neg h1, gR_sR, if_neg h2, r3]
  have r0 : gR τ 39 14 = some (wf m) := by rw [eτ, gR_sR, if_pos ⟨rfl, rfl⟩]
  have rm : gR τ 59 m = some hc := by rw [eτ, gR_sR, if_neg (by omega), gR_sR, if_pos ⟨rfl, rfl⟩]
  have dτ : τ.2.2.2 = σ.2.2.2 := by rw [eτ]; exact d3
  have iτ : ∀ q s, gI τ q s = gI τ2 q s := fun q s => by rw [eτ]; rfl
  refine okc_o (τ := τ) ?_ ⟨⟨dnc 250 (ovrK (yH w) (yK w) (F + n)) (yK w) (some (yW w m).2.2.1) D, fun x hx => ?_, fun x hx => ?_⟩, po_sw po (by omega) h14 h59 rτ r0 rm dτ, ⟨r0, rm, (iτ _ _).trans g11⟩, fun q s p1 p2 p3 => ?_, fun q s => ?_, rτ, dτ⟩
  · have a14 : ao σ 8 (some hc) := of_eq_true (aoS sh.1)
    have aK : ao σ 8 (some (cf (yK w))) := of_eq_true (aoS k1)
    have aK1 : ao σ 8 (some (cf (yK w))) = True := aoS k1
    have aw : ao σ1 8 (some (wf m)) := by rw [e1]; exact of_eq_true (aoS swm.1)
    have ww : w32 (F + n) = F + n := w32_i (by omega) (by omega)
    have eM1 : (yM w : Int) - 1 = (m : Int) := by omega
    have wm : w32 ((yM w : Int) - 1) = (m : Int) := by rw [eM1]; exact w32_i (by omega) (by omega)
    have nM : ¬ (yM w : Int) = 0 := by omega
    have g59 : Option.isSome (some 59) = true ∧ ab σ1 5 59 (m : Int) := by rw [g_59]; omega
    have g59' : Option.isSome (some 59) = true ∧ ab τ2 5 59 (m : Int) := by rw [g_59]; omega
    have gw1 : gR σ1 59 m = some (wf m) := by rw [e1]; exact h59
    have gw6 : gR σ2 (wf m) 6 = some (cf (yW w m).2.2.1) := (r2 _ _).trans hw6
    rw [M39, e39_0, h14, if_pos a14]
    simp only [Option.getD_some, h6]
    rw [if_neg (by show ¬ true = false; decide), if_pos aK, if_pos a14, k9, h7, ww, T570]
    show RR (lkB tb39) (B39_29, [some (mR (some 39)), some (mI n), some (mR (some (cf (yK w)))), none], [mI (if kL (yH w (yK w)) < F + n then F + n else kL (yH w (yK w))), mR (some (cf (yK w)))], σ) = _
    rw [e39_29, if_pos aK, Option.getD_some, ← e1, e39_32, i11, if_pos nM, wm, if_pos g59, Int.toNat_natCast, gw1, e39_54, if_pos (show Option.isSome (some (wf m)) = true from rfl), if_pos aw, i11, wm, ← e2, Option.getD_some, gw6]
    rw [show (some (cf (yW w m).2.2.1) : Option Nat) = (some (yW w m).2.2.1).map cf from rfl, t40]
    show RR (lkB tb39) (B39_112, [some (mR (some 39)), some (mI n), some (mR (some (cf (yK w)))), some (mR (some (wf m)))], [], τ2) = _
    have k28 : ∀ c, isSt σ c → (kd τ2 c).1 = 28 := fun c hc' => by rw [kd_r3 d3, hc'.1]
    have aq1 : (Option.isSome (some 59) = true ∧ ab τ2 5 59 (m : Int)) ∧ aq τ2 5 (some hc) := ⟨g59', fun _ => k28 hc sh.1⟩
    have ak1 : ao τ2 0 (some 39) ∧ ak τ2 2 (some (wf m)) := ⟨⟨rfl, by rw [kd_r3 d3]; rfl⟩, fun _ => k28 _ swm.1⟩
    rw [e39_112, g11, r3 39 14, h14, if_pos aq1, if_pos ak1, Int.toNat_natCast, eτ]
  · obtain ⟨⟨a1, ac⟩, a2, ⟨a5, a7, a9, a10⟩, a6⟩ := K3 x hx
    have nx := (neq x hx).2.2
    refine ⟨⟨st_r3 (by rw [dτ, d3]) a1, ac⟩, CSt_q (fun s => iτ _ _) (fun s => iτ _ _) (fun s => iτ _ _) (fun s => by rw [eτ]; rfl) a2, ⟨(iτ _ _).trans a5, (iτ _ _).trans a7, (iτ _ _).trans a9, (iτ _ _).trans a10⟩, ?_⟩
    rw [rτ _ _ (fun z => nx z.1) (fun z => by omega), ← r3]
    exact a6
  · have cR : ∀ y, cha (endK (yH w) (yK w) (F + n)) y = cha (ovrK (yH w) (yK w) (F + n)) y := fun y => by
      rw [ec]
      exact chn_e (fun j => clc_B 250 _ _ _ j) _ _
    rw [cR]
    have c0 : ∀ y, cha (ovrK (yH w) (yK w) (F + n)) y = cha (yH w) y := fun y => chn_e (fun j => ovc_B) _ _
    refine dnc_D (wfB_o df.1) 250 (yK w) (yW w m).2.2.1 D yk (by omega) ?_ (fun y hy => ?_) x hx
    · rw [c0]
      have := df.2.2.1
      rw [eM] at this
      exact this.1
    · rw [c0]
      exact hD y hy
  · rw [iτ, q3.1 _ _ p1, e2, gI_sI, if_neg p2]
    exact q1.1 _ _ p1
  · rw [eτ]
    exact l3 q s
end CEND
