-- FILE 99d.cend
/-! ===== the class's walk: its cells; a way ends (endWay) ===== -/
def isCl (c : Nat) : Prop := c = 62 ∨ c = 66 ∨ (153 ≤ c ∧ (c - 153) % 4 = 0)
/-- the places that hold states: here, spare, kept, waiting -/
def slR (σ : MS) (s : Nat) : Option Nat := if s = 0 then gR σ 39 14 else if s = 1 then gR σ 39 15 else if s < 252 then gR σ 58 (s - 2) else gR σ 59 (s - 252)
/-- each state is in one place -/
def POOL (σ : MS) : Prop := (∀ s c, s < 312 → slR σ s = some c → isSt σ c ∧ isCl c) ∧ ∀ s s' c, s < 312 → s' < 312 → slR σ s = some c → slR σ s' = some c → s = s'
section CEND
variable {τ σ ρ : MS} {cf wf : Nat → Nat} {K : Nat → KT} {N M k j hc : Nat} {D : Nat → Bool} {S : ST} {E : EV} {t n F C : Int}
theorem cl_d {c d : Nat} (h1 : isCl c) (h2 : isCl d) (h : ¬ c = d) : c + 3 < d ∨ d + 3 < c := by
  unfold isCl at h1 h2
  omega
theorem cl_s {c : Nat} (h : isCl c) : stC c := by
  unfold isCl at h
  show c = 62 ∨ c = 66 ∨ 153 ≤ c
  omega
theorem sR_z : slR σ 0 = gR σ 39 14 := rfl
theorem sR_o : slR σ 1 = gR σ 39 15 := rfl
theorem sR_kp (h : k < 250) : slR σ (2 + k) = gR σ 58 k := by
  unfold slR
  rw [if_neg (by omega), if_neg (by omega), if_pos (by omega), Nat.add_sub_cancel_left]
theorem sR_wt : slR σ (252 + k) = gR σ 59 k := by
  unfold slR
  rw [if_neg (by omega), if_neg (by omega), if_neg (by omega), Nat.add_sub_cancel_left]
theorem po_KD (h : POOL σ) (hN : N ≤ 250) (hk : ∀ k, k < N → gR σ 58 k = some (cf k)) : KD cf N := fun k k' h1 h2 e => by
  have s1 : slR σ (2 + k) = some (cf k) := (sR_kp (by omega)).trans (hk k h1)
  have s2 : slR σ (2 + k') = some (cf k') := (sR_kp (by omega)).trans (hk k' h2)
  refine cl_d (h.1 _ _ (by omega) s1).2 (h.1 _ _ (by omega) s2).2 (fun q => ?_)
  rw [← q] at s2
  have := h.2 _ _ _ (by omega) (by omega) s1 s2
  omega
/-- two places change what they hold -/
theorem po_sw {m wm : Nat} (h : POOL σ) (hm : m < 60) (h0 : gR σ 39 14 = some hc) (h1 : gR σ 59 m = some wm) (e : ∀ q s, ¬ (q = 39 ∧ s = 14) → ¬ (q = 59 ∧ s = m) → gR τ q s = gR σ q s) (e0 : gR τ 39 14 = some wm) (e1 : gR τ 59 m = some hc) (ek : τ.2.2.2 = σ.2.2.2) : POOL τ := by
  have sw : ∀ s, s < 312 → slR τ s = slR σ (if s = 0 then 252 + m else if s = 252 + m then 0 else s) := fun s hs => by
    by_cases s0 : s = 0
    · rw [if_pos s0, s0, sR_z, e0, sR_wt, h1]
    · rw [if_neg s0]
      by_cases s1 : s = 252 + m
      · rw [if_pos s1, s1, sR_wt, e1, sR_z, h0]
      · rw [if_neg s1]
        unfold slR
        rw [if_neg s0, if_neg s0]
        by_cases a : s = 1
        · rw [if_pos a, if_pos a]
          exact e _ _ (by omega) (by omega)
        · rw [if_neg a, if_neg a]
          by_cases b : s < 252
          · rw [if_pos b, if_pos b]
            exact e _ _ (by omega) (by omega)
          · rw [if_neg b, if_neg b]
            exact e _ _ (by omega) (by omega)
  have lt : ∀ s, s < 312 → (if s = 0 then 252 + m else if s = 252 + m then 0 else s) < 312 := fun s hs => by
    split
    · omega
    · split <;> omega
  refine ⟨fun s c hs q => ?_, fun s s' c hs hs' q q' => ?_⟩
  · rw [sw s hs] at q
    obtain ⟨y1, y2⟩ := h.1 _ _ (lt s hs) q
    exact ⟨st_r3 ek y1, y2⟩
  · rw [sw s hs] at q
    rw [sw s' hs'] at q'
    have := h.2 _ _ _ (lt s hs) (lt s' hs') q q'
    revert this
    split
    · split
      · omega
      · split <;> omega
    · split
      · split
        · omega
        · split <;> omega
      · split
        · omega
        · split <;> omega
/-- what the end of a way may change, beside what is kept -/
def ewq (τ σ : MS) (cf : Nat → Nat) (N m : Nat) : Prop := (∀ q s, (¬ (s = 9 ∨ s = 10) ∨ ∀ k, k < N → ¬ q = cf k) → ¬ (q = 39 ∧ s = 11) → ¬ (q = 51 ∧ s = 3) → gI τ q s = gI σ q s) ∧ (∀ q s, gL τ q s = gL σ q s) ∧ (∀ q s, ¬ (q = 39 ∧ s = 14) → ¬ (q = 59 ∧ s = m) → gR τ q s = gR σ q s) ∧ τ.2.2.2 = σ.2.2.2
/-- a way ends, and another one waits -/
theorem T39w {w : WK} {m : Nat} (df : dfI w) (po : POOL σ) (h14 : gR σ 39 14 = some hc) (hk : ∀ k, k < yNn w → gR σ 58 k = some (cf k)) (eM : yM w = m + 1) (h59 : gR σ 59 m = some (wf m)) (hK : KC σ cf (yH w) (yNn w) D) (hD : ∀ x, x < yNn w → (D x = true ↔ ¬ x ∈ cha (yH w) (yK w)))
    (h6 : gR σ hc 6 = some (cf (yK w))) (h7 : gI σ hc 7 = F) (hB : KB (yH w) (yNn w) C) (hC : 0 ≤ C ∧ C ≤ 50000) (hF : 0 ≤ F + n ∧ F + n ≤ C + 4000) (h11 : gI σ 39 11 = (yM w : Int)) (hw6 : gR σ (wf m) 6 = some (cf (yW w m).2.2.1)) :
    okc (MM 39 [mR (some 39), mI n] σ) (some (mI 1)) (fun τ => (∃ D1, KC τ cf (endK (yH w) (yK w) (F + n)) (yNn w) D1 ∧ ∀ x, x < yNn w → (D1 x = true ↔ ¬ x ∈ cha (endK (yH w) (yK w) (F + n)) (yW w m).2.2.1)) ∧ POOL τ ∧ (gR τ 39 14 = some (wf m) ∧ gR τ 59 m = some hc ∧ gI τ 39 11 = (m : Int)) ∧ ewq τ σ cf (yNn w) m) := by
  have N250 := df.2.1.2.1
  have m60 := df.2.1.2.2
  have yk := df.2.1.1
  have hd := po_KD po N250 hk
  have sh := (po.1 0 hc (by decide) (sR_z.trans h14))
  have swm := po.1 (252 + m) (wf m) (by omega) (sR_wt.trans h59)
  have neq : ∀ k, k < yNn w → ¬ cf k = hc ∧ ¬ cf k = wf m ∧ ¬ cf k = 39 := fun k hk' => by
    have s1 : slR σ (2 + k) = some (cf k) := (sR_kp (by omega)).trans (hk k hk')
    have c1 := (po.1 _ _ (by omega) s1).2
    refine ⟨fun q => ?_, fun q => ?_, fun q => ?_⟩
    · rw [q] at s1
      have := po.2 _ _ _ (by omega) (by omega) s1 (sR_z.trans h14)
      omega
    · rw [q] at s1
      have := po.2 _ _ _ (by omega) (by omega) s1 (sR_wt.trans h59)
      omega
    · unfold isCl at c1
      omega
  have ch : isCl hc := sh.2
  have cw : isCl (wf m) := swm.2
  have nh : ¬ hc = 39 ∧ ¬ wf m = 39 := by
    unfold isCl at ch cw
    omega
  obtain ⟨⟨k1, kc⟩, k2, ⟨k5, k7, k9, k10⟩, k6⟩ := hK (yK w) yk
  have lL := df.2.2.2.1 m (by omega)
  -- the longest
  have K1 := KC_l (n := F + n) hd hK yk
  obtain ⟨σ1, e1⟩ : ∃ σ1, σ1 = sI σ (cf (yK w)) 9 (if kL (yH w (yK w)) < F + n then F + n else kL (yH w (yK w))) := ⟨_, rfl⟩
  rw [← e1] at K1
  have q1 : kcq σ1 σ cf (yNn w) := by rw [e1]; exact kcq_i yk (Or.inl rfl)
  have i11 : gI σ1 39 11 = (yM w : Int) := (q1.1 _ _ (Or.inl (by omega))).trans h11
  obtain ⟨σ2, e2⟩ : ∃ σ2, σ2 = sI σ1 39 11 (m : Int) := ⟨_, rfl⟩
  have K2 : KC σ2 cf (ovrK (yH w) (yK w) (F + n)) (yNn w) D := fun x hx => by
    obtain ⟨⟨a1, ac⟩, a2, ⟨a5, a7, a9, a10⟩, a6⟩ := K1 x hx
    have nx := (neq x hx).2.2
    have g : ∀ q s, ¬ q = 39 → gI σ2 q s = gI σ1 q s := fun q s h => by rw [e2, gI_sI, if_neg (fun z => h z.1)]
    refine ⟨⟨by rw [e2]; exact a1, ac⟩, CSt_q (fun s => g _ _ nx) (fun s => g _ _ (by omega)) (fun s => g _ _ (by omega)) (fun s => by rw [e2]; rfl) a2, ⟨(g _ _ nx).trans a5, (g _ _ nx).trans a7, (g _ _ nx).trans a9, (g _ _ nx).trans a10⟩, by rw [e2]; exact a6⟩
  have r2 : ∀ q s, gR σ2 q s = gR σ q s := fun q s => by
    rw [e2]
    show gR σ1 q s = gR σ q s
    rw [e1]
    rfl
  have st2 : isSt σ2 hc := by rw [e2, e1]; exact sh.1
  have B1 := ov_B hB yk hF hC.1
  obtain ⟨τ2, t40, K3, q3⟩ := T40 (u := some (yW w m).2.2.1) hd N250 (fun R e => by rw [← Option.some.inj e]; exact lL) K2 B1 yk (by omega) ((r2 _ _).trans h14) st2 ((r2 _ _).trans h6)
  have lu : lstW (yW w) (yM w) = some (yW w m).2.2.1 := by rw [eM]; rfl
  have ec := end_c (n := F + n) df
  rw [lu] at ec
  rw [← ec] at K3
  have r3 : ∀ q s, gR τ2 q s = gR σ q s := fun q s => by
    show τ2.2.2.1 q s = _
    rw [q3.2]
    exact r2 q s
  have l3 : ∀ q s, gL τ2 q s = gL σ q s := fun q s => by
    show τ2.2.1 q s = _
    rw [q3.2, e2, e1]
    rfl
  have d3 : τ2.2.2.2 = σ.2.2.2 := by rw [q3.2, e2, e1]; rfl
  have g11 : gI τ2 39 11 = (m : Int) := by
    rw [q3.1 _ _ (Or.inl (by omega)), e2, gI_sI, if_pos ⟨rfl, rfl⟩]
  obtain ⟨τ, eτ⟩ : ∃ τ, τ = sR (sR τ2 59 m (some hc)) 39 14 (some (wf m)) := ⟨_, rfl⟩
  have rτ : ∀ q s, ¬ (q = 39 ∧ s = 14) → ¬ (q = 59 ∧ s = m) → gR τ q s = gR σ q s := fun q s h1 h2 => by
    rw [eτ, gR_sR, if_neg h1, gR_sR, if_neg h2, r3]
  have r0 : gR τ 39 14 = some (wf m) := by rw [eτ, gR_sR, if_pos ⟨rfl, rfl⟩]
  have rm : gR τ 59 m = some hc := by rw [eτ, gR_sR, if_neg (by omega), gR_sR, if_pos ⟨rfl, rfl⟩]
  have dτ : τ.2.2.2 = σ.2.2.2 := by rw [eτ]; exact d3
  have iτ : ∀ q s, gI τ q s = gI τ2 q s := fun q s => by rw [eτ]; rfl
  refine okc_o (τ := τ) ?_ ⟨⟨dnc 250 (ovrK (yH w) (yK w) (F + n)) (yK w) (some (yW w m).2.2.1) D, fun x hx => ?_, fun x hx => ?_⟩, po_sw po (by omega) h14 h59 rτ r0 rm dτ, ⟨r0, rm, (iτ _ _).trans g11⟩, fun q s p1 p2 p3 => ?_, fun q s => ?_, rτ, dτ⟩
  · have a14 : ao σ 8 (some hc) := of_eq_true (aoS sh.1)
    have aK : ao σ 8 (some (cf (yK w))) := of_eq_true (aoS k1)
    have aK1 : ao σ 8 (some (cf (yK w))) = True := aoS k1
    have aw : ao σ1 8 (some (wf m)) := by rw [e1]; exact of_eq_true (aoS swm.1)
    have ww : w32 (F + n) = F + n := w32_i (by omega) (by omega)
    have eM1 : (yM w : Int) - 1 = (m : Int) := by omega
    have wm : w32 ((yM w : Int) - 1) = (m : Int) := by rw [eM1]; exact w32_i (by omega) (by omega)
    have nM : ¬ (yM w : Int) = 0 := by omega
    have g59 : Option.isSome (some 59) = true ∧ ab σ1 5 59 (m : Int) := by rw [g_59]; omega
    have g59' : Option.isSome (some 59) = true ∧ ab τ2 5 59 (m : Int) := by rw [g_59]; omega
    have gw1 : gR σ1 59 m = some (wf m) := by rw [e1]; exact h59
    have gw6 : gR σ2 (wf m) 6 = some (cf (yW w m).2.2.1) := (r2 _ _).trans hw6
    rw [M39, e39_0, h14, if_pos a14, Option.getD_some, h6, if_neg (by show ¬ true = false; decide), if_pos aK, if_pos a14, Option.getD_some, k9, h7, ww, T570]
    show RR (lkB tb39) (B39_29, [some (mR (some 39)), some (mI n), some (mR (some (cf (yK w)))), none], [mI (if kL (yH w (yK w)) < F + n then F + n else kL (yH w (yK w))), mR (some (cf (yK w)))], σ) = _
    rw [e39_29, if_pos aK, Option.getD_some, ← e1, e39_32, i11, if_pos nM, wm, if_pos g59, Int.toNat_natCast, gw1, e39_54, if_pos (show Option.isSome (some (wf m)) = true from rfl), if_pos aw, i11, wm, ← e2, Option.getD_some, gw6]
    rw [show (some (cf (yW w m).2.2.1) : Option Nat) = (some (yW w m).2.2.1).map cf from rfl, t40]
    show RR (lkB tb39) (B39_112, [some (mR (some 39)), some (mI n), some (mR (some (cf (yK w)))), some (mR (some (wf m)))], [], τ2) = _
    have k28 : ∀ c, isSt σ c → (kd τ2 c).1 = 28 := fun c hc' => by rw [kd_r3 d3, hc'.1]
    have aq1 : (Option.isSome (some 59) = true ∧ ab τ2 5 59 (m : Int)) ∧ aq τ2 5 (some hc) := ⟨g59', fun _ => k28 hc sh.1⟩
    have ak1 : ao τ2 0 (some 39) ∧ ak τ2 2 (some (wf m)) := ⟨⟨rfl, by rw [kd_r3 d3]; rfl⟩, fun _ => k28 _ swm.1⟩
    rw [e39_112, g11, r3 39 14, h14, if_pos aq1, if_pos ak1, Int.toNat_natCast, eτ]
  · obtain ⟨⟨a1, ac⟩, a2, ⟨a5, a7, a9, a10⟩, a6⟩ := K3 x hx
    have nx := (neq x hx).2.2
    refine ⟨⟨st_r3 (by rw [dτ, d3]) a1, ac⟩, CSt_q (fun s => iτ _ _) (fun s => iτ _ _) (fun s => iτ _ _) (fun s => by rw [eτ]; rfl) a2, ⟨(iτ _ _).trans a5, (iτ _ _).trans a7, (iτ _ _).trans a9, (iτ _ _).trans a10⟩, ?_⟩
    rw [rτ _ _ (fun z => nx z.1) (fun z => by omega), ← r3]
    exact a6
  · have cR : ∀ y, cha (endK (yH w) (yK w) (F + n)) y = cha (ovrK (yH w) (yK w) (F + n)) y := fun y => by
      rw [ec]
      exact chn_e (fun j => clc_B 250 _ _ _ j) _ _
    rw [cR]
    have c0 : ∀ y, cha (ovrK (yH w) (yK w) (F + n)) y = cha (yH w) y := fun y => chn_e (fun j => ovc_B) _ _
    refine dnc_D (wfB_o df.1) 250 (yK w) (yW w m).2.2.1 D yk (by omega) ?_ (fun y hy => ?_) x hx
    · rw [c0]
      have := df.2.2.1
      rw [eM] at this
      exact this.1
    · rw [c0]
      exact hD y hy
  · rw [iτ, q3.1 _ _ p1, e2, gI_sI, if_neg p2]
    exact q1.1 _ _ p1
  · rw [eτ]
    exact l3 q s
end CEND
