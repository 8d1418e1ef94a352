/-! ===== the class's runs, step by step: an instruction, whole ===== -/
/-- a step's end -/
def stqC (σ τ : MS) (ψ : Nat → Nat) (c : TC WR) (k : Nat) (c' : TC WR) : Prop := mvC σ τ ∧
  ((k = 0 ∧ RelC τ ψ c' ∧ gI τ 71 8 = cP c' ∧ gI τ 71 9 = gI σ 71 9)
  ∨ (k = 1 ∧ RelC τ ψ c ∧ c' = c ∧ gI τ 71 9 = 1 ∧ gL τ 76 0 = (rdR c 0).2)
  ∨ (k = 2 ∧ cN c = 1 ∧ RelC τ ψ (st0 (cW c')) ∧ gI τ 71 8 = 0 ∧ gI τ 71 9 = gI σ 71 9 ∧ slO (cW c) (cW c')))
section CACT
variable {σ τ ρ υ : MS} {W V : WR} {c c' d : TC WR} {w w2 : B64} {m n p q e j z N r o k s K : Nat} {y nx hh i p' : Int} {E : EV} {φ ψ : Nat → Nat} {x v : B64} {u : SV} {R' : Nat → Nat → SV}
theorem RelC_n (h : RelC σ φ c) (hR : ∀ f r, R' f r = cR c f r ∨ R' f r = nilR) : RelC σ φ (p', cN c, R', cS c, cB c, cW c) := by
  refine RelC_u h rfl (fun _ _ _ => rfl) (fun _ => rfl) (fun _ _ _ => rfl) hR (fun _ _ => Or.inl rfl) ⟨fun f r z => ?_, h.2.2.2.2.1.2⟩ h.2.2.2.2.2
  have z : 300 ≤ (R' f r).1 := z
  show (R' f r).1 ≤ 363 ∧ ¬ wg (cW c) 152 ((R' f r).1 - 300) = 0
  rcases hR f r with e | e
  · rw [e] at z ⊢
    exact h.2.2.2.2.1.1 f r z
  · rw [e] at z
    exact absurd z (show ¬ 300 ≤ (6 : Nat) by decide)
theorem RelC_g (h : RelC σ φ c) : RelC σ φ (p', cN c, cR c, cS c, cB c, cW c) := RelC_n h fun _ _ => Or.inl rfl
theorem RelC_i (h : RelC σ φ c) : RelC (sI σ 71 8 y) φ c := by
  have g : ∀ k s, ¬ (k = 71 ∧ s = 8) → gI (sI σ 71 8 y) k s = gI σ k s := fun k s z => by rw [gI_sI, if_neg z]
  have wl := h.2.2.2.2.2
  obtain ⟨hM, k4, k5, k6, k7, k8, k9, k10, k11⟩ := wl
  have z := RelC_w (τ := sI σ 71 8 y) (V := cW c) (p' := cP c) h (g _ _ (by omega)) (fun _ _ _ => rfl) (fun s => g _ _ (by omega)) (fun s _ _ => g _ _ (by omega)) (fun _ _ z => z) ⟨wldM_r hM (fun k s z => g _ _ (by omega)) (fun s z => g _ _ (by omega)) (fun _ _ _ => rfl), k4, k5, k6, k7, k8, k9, k10, k11⟩
  exact z
/-- a comparison over the class's room -/
theorem cmX_C {b : Bool} (h : RelC σ φ c) (e : cmT c w = some b) (hc : isCmp (fC w)) (hd : fD w ≤ 10) (hs : rgt w → fS w ≤ 10) : cmpW (fC w) (decide (widJ w)) (gL σ 76 (dR w)) (sdC σ w) = b := by
  have fr := fld_rng w
  have d10 : dR w ≤ 10 := by show (fD w).toNat ≤ 10; omega
  have s10 : rgt w → sRr w ≤ 10 := fun r => by
    have := hs r
    show (fS w).toNat ≤ 10
    omega
  have pb : ∀ o, o = (rdR c (dR w)).1 ∨ o = 280 → plC φ o < 25364 := fun o ho => by
    unfold plC
    by_cases q1 : o = 1
    · rw [if_pos q1]; decide
    · rw [if_neg q1]
      by_cases q2 : 2 ≤ o ∧ o ≤ 5
      · rw [if_pos q2]; omega
      · rw [if_neg q2]
        by_cases q3 : 16 ≤ o ∧ o ≤ 271
        · rw [if_pos q3]; omega
        · rw [if_neg q3]
          by_cases q4 : 300 ≤ o ∧ o ≤ 363
          · rw [if_pos q4]
            have q5 : o = (rdR c (dR w)).1 := by omega
            have l := rg_liv (r := dR w) h.2.2.2.2.1 h.1.1.2 (by omega)
            rw [← q5] at l
            have := (h.2.2.2.2.2.1.2.1 (o - 300) (by omega) l.2).1
            omega
          · rw [if_neg q4]; decide
  refine cmpX_g (bs := adC φ) (a := gL σ 76 (dR w)) (b := sdC σ w) hc e (fun o ho h0 h4 mp => ?_) (fun o h1 h2 z => ?_) (fun z => rd_C h d10 z) (fun r z => ?_) (fun r => ?_)
  · have b := pb o ho
    have ea : adC φ o = iL (1048576 + (plC φ o : Int)) := by
      unfold adC
      rw [if_neg mp]
    unfold okBs
    rw [ea, iLt (by omega) (by omega)]
    omega
  · unfold adC at z
    rw [if_pos ⟨h1, h2⟩] at z
    have z := congrArg BitVec.toInt z
    rw [iLt (by omega) (by omega)] at z
    have z0 : (0#64).toInt = 0 := rfl
    omega
  · unfold sdC
    rw [if_pos r]
    exact rd_C h (s10 r) z
  · unfold sdC
    rw [if_neg r]
    rfl
/-- a call of a helper leaves, with its answer in r0 -/
theorem hpC_0 (q : hpC υ φ c hh nx k c') (h8 : gI υ 71 8 = nx) : ∃ v τ ψ, MM 197 [mR (some 71), mI hh] υ = some (some (mL v), τ) ∧ stqC υ (sL τ 76 0 v) ψ c k c' := by
  obtain ⟨v, τ, ψ, t, mv, g9, q⟩ := q
  refine ⟨v, τ, ψ, t, mvC_t mv mvC_L, ?_⟩
  rcases q with ⟨k0, g8, R, S, W, u, ec, rel, ev, ok, lv⟩ | ⟨k2, n1, g8, rel, so⟩
  · refine Or.inl ⟨k0, ?_, ?_, g9⟩
    · have z := wr_C (r := 0) (v := u) rel (by decide) ev ok lv
      rw [ec]
      refine RelC_n z fun f r => ?_
      show (if f = cN c - 1 ∧ r = 0 then u else nilA R (cN c - 1) f r) = (if f = cN c - 1 ∧ r = 0 then u else R f r) ∨ (if f = cN c - 1 ∧ r = 0 then u else nilA R (cN c - 1) f r) = nilR
      by_cases q1 : f = cN c - 1 ∧ r = 0
      · left
        rw [if_pos q1, if_pos q1]
      · rw [if_neg q1, if_neg q1]
        unfold nilA
        by_cases q2 : f = cN c - 1 ∧ 1 ≤ r ∧ r ≤ 5
        · right
          rw [if_pos q2]
        · left
          rw [if_neg q2]
    · show gI τ 71 8 = cP c'
      rw [g8, h8, ec]
  · refine Or.inr (Or.inr ⟨k2, n1, ?_, g8, g9, so⟩)
    have z := wr_C (r := 0) (v := (0, v)) rel (by decide) enG_0.symm okSV_0 lv_0
    refine RelC_n z fun f r => ?_
    show (if f = 0 ∧ r = 1 then (1, 0#64) else nilR) = (if f = 0 ∧ r = 0 then (0, v) else (if f = 0 ∧ r = 1 then (1, 0#64) else nilR)) ∨ (if f = 0 ∧ r = 1 then (1, 0#64) else nilR) = nilR
    by_cases q1 : f = 0 ∧ r = 1
    · left
      rw [if_pos q1, if_neg (by omega)]
    · right
      rw [if_neg q1]
/-- a step is counted, the next word told -/
theorem ct_C (h : RelC σ φ c) : RelC (sL (sI σ 71 8 y) 71 16 (gL σ 71 16 + BitVec.ofNat 64 1)) φ (cP c, cN c, cR c, cS c, cB c, RT (cW c)) := by
  obtain ⟨υ, hυ⟩ : ∃ υ, υ = sL (sI σ 71 8 y) 71 16 (gL σ 71 16 + BitVec.ofNat 64 1) := ⟨_, rfl⟩
  have g : ∀ k s, ¬ (k = 71 ∧ s = 8) → gI υ k s = gI σ k s := fun k s z => by rw [hυ, gI_sL, gI_sI, if_neg z]
  have l : ∀ k s, ¬ (k = 71 ∧ s = 16) → gL υ k s = gL σ k s := fun k s z => by rw [hυ, gL_sL, if_neg z, gL_sI]
  have l16 : gL υ 71 16 = gL σ 71 16 + BitVec.ofNat 64 1 := by rw [hυ, gL_sL, if_pos ⟨rfl, rfl⟩]
  rw [← hυ]
  have wl := h.2.2.2.2.2
  obtain ⟨hM, k4, k5, k6, k7, k8, k9, k10, k11⟩ := wl
  refine RelC_w h (g _ _ (by omega)) (fun k s z => l _ _ (by omega)) (fun s => g _ _ (by omega)) (fun s _ _ => g _ _ (by omega)) (fun _ _ z => z) ⟨wldM_r hM (fun k s z => g _ _ (by omega)) (fun s z => g _ _ (by omega)) (fun _ _ _ => rfl), wcV_q k4 (fun s z => g _ _ (by omega)) (fun _ => rfl), fun s z => by rw [g _ _ (by omega)]; exact k5 s z, wcZ_q k6 (fun s z => g _ _ (by omega)) (fun _ _ => rfl), wcG_q k7 (fun s => g _ _ (by omega)) (fun _ => rfl), wcX_q k8 (fun s => g _ _ (by omega)) (fun _ => rfl) rfl, wcC_q k9 (fun s z => g _ _ (by omega)) rfl, wcY_q k10 (fun s z => g _ _ (by omega)) (fun _ _ => rfl), ?_, ?_⟩
  · exact k11.1.trans (l _ _ (by omega)).symm
  · rw [l16, ← k11.2]
    rfl
/-- up to the word -/
theorem L190 (h8 : gI σ 71 8 = (p : Int)) (h7 : gI σ 71 7 = (s : Int)) (s8 : s < 8) (hn : (p : Int) < gI σ 15 s) (hp : p < 200) (hK : gR σ 6 s = some K) (kK : kd σ K = (4, 200)) (hw : gL σ K p = w) : MM 190 [mR (some 71)] σ = RR (lkB tb190) (B190_54, [some (mR (some 71)), some (mL w), none, none, none, none], [mI (fOp w)], σ) := by
  have bs : 0 ≤ (s : Int) ∧ (s : Int) < 8 := by omega
  have bp : 0 ≤ (p : Int) ∧ (p : Int) < 200 := by omega
  have n0 : ¬ (p : Int) < 0 := by omega
  have gK : (Option.isSome (some K) = true ∧ ab σ 4 K (p : Int)) = (0 ≤ (p : Int) ∧ (p : Int) < 200) := gdK (n := 200) kK
  rw [M190, e190_0]
  simp only [Option.getD_some, Option.bind_some, Option.toList_some, Option.toList_none, List.cons_append, List.nil_append, and_self, and_true, true_and, false_and, and_false, ite_self, not_true_eq_false, not_false_eq_true, reduceIte, Nat.reduceEqDiff, ab_I, ab_L, ab_R, ao_I, ao_L, ao_R, gL_sL, gI_sI, gR_sR, gI_sL, gI_sR, gL_sI, gL_sR, gR_sI, gR_sL, h8, n0, if_false, g_15, h7, bs.1, bs.2, Int.toNat_natCast, hn, if_true, g_6, hK, gK, bp.1, bp.2, hw, T0]
theorem T190 (h : RelC σ φ c) (hb : bOk σ) (hI : invW (cW c)) (C : CEO σ E) (hE : okE E) (hR : okRow E) (hP : cP c = (p : Int)) (h8 : gI σ 71 8 = (p : Int)) (h7 : gI σ 71 7 = (s : Int)) (s8 : s < 8) (hn : (p : Int) < gI σ 15 s) (n200 : gI σ 15 s ≤ 200) (hl : fL w = 0 → (p : Int) + 1 < gI σ 15 s)
    (hK : gR σ 6 s = some K) (kK : kd σ K = (4, 200)) (K6 : ¬ (K = 71 ∨ K = 76)) (hw : gL σ K p = w) (hw2 : gL σ K (p + 1) = w2) (ok : okI w w2) (hg : (fL w = 5 ∨ fL w = 6) → ¬ fOp w = 149 → (fOp w = 133 → fS w = 1) → 0 ≤ goal (p : Int) w ∧ goal (p : Int) w < 1000)
    (e : stpT RB RH E (cP c, cN c, cR c, cS c, cB c, RT (cW c)) w w2 = some (k, c')) : ∃ τ ψ, MM 190 [mR (some 71)] σ = some (none, τ) ∧ stqC σ τ ψ (cP c, cN c, cR c, cS c, cB c, RT (cW c)) k c' := by
  have p200 : p < 200 := by omega
  have fr := fld_rng w
  have hi : 0 ≤ (p : Int) ∧ (p : Int) < 1000 := by omega
  have P1 : -2147483648 ≤ (p : Int) + 1 ∧ (p : Int) + 1 < 2147483648 := by omega
  have eD : fD w = ((dR w : Nat) : Int) := by show fD w = ((fD w).toNat : Int); omega
  have eS : fS w = ((sRr w : Nat) : Int) := by show fS w = ((fS w).toNat : Int); omega
  have bD : 0 ≤ ((dR w : Nat) : Int) ∧ ((dR w : Nat) : Int) < 16 := by
    show 0 ≤ (((fD w).toNat : Nat) : Int) ∧ (((fD w).toNat : Nat) : Int) < 16
    omega
  have bS : 0 ≤ ((sRr w : Nat) : Int) ∧ ((sRr w : Nat) : Int) < 16 := by
    show 0 ≤ (((fS w).toNat : Nat) : Int) ∧ (((fS w).toNat : Nat) : Int) < 16
    omega
  obtain ⟨υ, hυ⟩ : ∃ υ, υ = sL (sI σ 71 8 ((p : Int) + 1)) 71 16 (gL σ 71 16 + BitVec.ofNat 64 1) := ⟨_, rfl⟩
  have ru : RelC υ φ (cP c, cN c, cR c, cS c, cB c, RT (cW c)) := by
    rw [hυ]
    exact ct_C h
  obtain ⟨c1, hc1⟩ : ∃ c1 : TC WR, c1 = (cP c, cN c, cR c, cS c, cB c, RT (cW c)) := ⟨_, rfl⟩
  rw [← hc1] at e ru ⊢
  have P1' : cP c1 = (p : Int) := by rw [hc1]; exact hP
  have gu : ∀ k s, ¬ (k = 71 ∧ s = 8) → gI υ k s = gI σ k s := fun k s z => by rw [hυ, gI_sL, gI_sI, if_neg z]
  have lu : ∀ k s, ¬ (k = 71 ∧ s = 16) → gL υ k s = gL σ k s := fun k s z => by rw [hυ, gL_sL, if_neg z, gL_sI]
  have u8 : gI υ 71 8 = (p : Int) + 1 := by rw [hυ, gI_sL, gI_sI, if_pos ⟨rfl, rfl⟩]
  have mu : mvC σ υ := by
    refine ⟨fun k s z => gu k s (fun y => z (by omega)), fun k s _ z => lu k s (fun y => z (by omega)), ?_⟩
    rw [hυ]
    rfl
  have bu : bOk υ := by
    rw [hυ]
    exact bOk_w hb (fun y => absurd (show (26 : Nat) = 1 from y) (by decide))
  have I1 : invW (cW c1) := by
    rw [hc1]
    exact inv_ch hI
  have C1 : CEO υ E := fun m hm => by
    rw [gu _ _ (by omega), gu _ _ (by omega), gu _ _ (by omega), gu _ _ (by omega)]
    exact C m hm
  have hl2 : fL w = 0 → p + 1 < 200 ∧ ((p + 1 : Nat) : Int) < gI υ 15 s := fun z => by
    have := hl z
    rw [gu _ _ (by omega)]
    omega
  have w1 : w32 ((p : Int) + 1) = (p : Int) + 1 := w32_i P1.1 P1.2
  have w7 : iAnd (fOp w) 7 = fL w := m7 w
  have okp : ¬ fL w = 0 → okPl w := fun z => by
    rcases ok with q | q
    · exact absurd q.1 z
    · exact q
  have t0 := L190 (w := w) h8 h7 s8 hn p200 hK kK hw
  have e16 : gL (sI σ 71 8 ((p : Int) + 1)) 71 16 = gL σ 71 16 := rfl
  -- a register is written, and on
  have fin0 : ∀ {v : SV}, fD w ≤ 9 → okSV v → (300 ≤ v.1 → v.1 ≤ 363 ∧ ¬ wg (cW c1) 152 (v.1 - 300) = 0) → stqC σ (sL υ 76 (dR w) (enK φ v)) φ c1 0 (goT (wrR c1 (dR w) v) ((p : Int) + 1)) := fun {v} d9 kv lv => by
    refine ⟨mvC_t mu mvC_L, Or.inl ⟨rfl, RelC_g (wr_C ru (dR_9 d9) rfl kv lv), u8, gu _ _ (by omega)⟩⟩
  unfold stpT at e
  by_cases l0 : fL w = 0
  · rw [if_pos l0] at e
    have hl := hl l0
    have okr : okPr w w2 := by
      rcases ok with q | q
      · exact q.2
      · unfold okPl at q
        rw [if_pos l0] at q
        exact q.elim
    obtain ⟨⟨o24, d9, _, lo⟩, o2⟩ := okr
    rw [l0] at w7
    have u8' : gI υ 71 8 = ((p + 1 : Nat) : Int) := u8
    have pe : ((p + 1 : Nat) : Int) + 1 = cP c1 + 2 := by omega
    have t190 : ∀ τ, MM 191 [mR (some 71), mL w] υ = some (none, τ) → MM 190 [mR (some 71)] σ = some (none, τ) := fun τ t => by
      rw [t0, e190_54, h8, w1, e16, ← hυ]
      simp only [w7, if_true, t, Option.getD_some, Option.bind_some, Option.toList_some, Option.toList_none, List.cons_append, List.nil_append, and_self, and_true, true_and, false_and, and_false, ite_self, not_true_eq_false, not_false_eq_true, reduceIte, Nat.reduceEqDiff, ab_I, ab_L, ab_R, ao_I, ao_L, ao_R, gL_sL, gI_sI, gR_sR, gI_sL, gI_sR, gL_sI, gL_sR, gR_sI, gR_sL, e190_125, e190_276]
    have fin2 : ∀ {v : SV}, okSV v → (300 ≤ v.1 → v.1 ≤ 363 ∧ ¬ wg (cW c1) 152 (v.1 - 300) = 0) → stqC σ (sI (sL υ 76 (dR w) (enK φ v)) 71 8 (((p + 1 : Nat) : Int) + 1)) φ c1 0 (goT (wrR c1 (dR w) v) (cP c1 + 2)) := fun {v} kv lv => by
      refine ⟨mvC_t (mvC_t mu mvC_L) (mvC_I (by omega)), Or.inl ⟨rfl, RelC_g (RelC_i (wr_C ru (dR_9 d9) rfl kv lv)), ?_, ?_⟩⟩
      · rw [gI_sI, if_pos ⟨rfl, rfl⟩, pe]
        rfl
      · rw [gI_sI, if_neg (by omega)]
        exact gu _ _ (by omega)
    by_cases s0 : fS w = 0
    · rw [if_pos s0] at e
      cases e
      have kK' : kd υ K = (4, 200) := by rw [hυ]; exact kK
      have hK' : gR υ 6 s = some K := by rw [hυ]; exact hK
      have t := T191n (σ := υ) (w := w) (s := s) (p := p + 1) (K := K) d9 s0 ((gu _ _ (by omega)).trans h7) s8 u8' (hl2 l0).2 hK' kK' (hl2 l0).1
      have ew : gL υ K (p + 1) = w2 := (lu _ _ (by omega)).trans hw2
      rw [ew, hi_w, ← lo_w lo] at t
      have f := fin2 (v := (0, (BitVec.ofInt 64 (fI w) &&& cF) ||| (w2 &&& ~~~cF))) okSV_0 lv_0
      have ev : enK φ (0, (BitVec.ofInt 64 (fI w) &&& cF) ||| (w2 &&& ~~~cF)) = (BitVec.ofInt 64 (fI w) &&& cF) ||| (w2 &&& ~~~cF) := enG_0
      rw [ev] at f
      rw [lo_w lo] at f t
      exact ⟨_, φ, t190 _ t, by rw [lo_w lo]; exact f⟩
    · rw [if_neg s0] at e
      cases e
      obtain ⟨s1, i0, i7, _⟩ := o2.resolve_left s0
      have t := T191m (σ := υ) (w := w) (p := p + 1) d9 s1 ⟨i0, i7⟩ u8' (hl2 l0).1
      have ea : iL (fI w + 1) = enK φ (8 + (fI w).toNat, 0#64) := by
        show _ = enG (adC φ) (8 + (fI w).toNat, 0#64)
        rw [enG_n (show ¬ 8 + (fI w).toNat = 0 by omega), BitVec.add_zero]
        unfold adC
        rw [if_pos (by omega)]
        exact congrArg iL (by omega)
      have kv : okSV (8 + (fI w).toNat, 0#64) := ⟨fun _ => rfl, fun _ _ => rfl, by show 8 + (fI w).toNat < 400; omega⟩
      rw [ea] at t
      exact ⟨_, φ, t190 _ t, fin2 kv (fun z => by have z : 300 ≤ 8 + (fI w).toNat := z; omega)⟩
  · rw [if_neg l0] at e
    have opl := okp l0
    have opl' := opl
    unfold okPl at opl'
    rw [if_neg l0] at opl'
    by_cases l47 : fL w = 4 ∨ fL w = 7
    · rw [if_pos l47] at e opl'
      cases ea : alT c1 w with
      | none =>
        rw [ea] at e
        cases e
      | some v =>
        rw [ea] at e
        cases e
        have t := T193 (σ := υ) opl'
        obtain ⟨ev, kv⟩ := alu_C ru opl' ea
        rw [ev] at t
        rw [P1']
        refine ⟨_, φ, ?_, fin0 opl'.1.1 kv (al_liv ru.2.2.2.2.1 ru.1.1.2 ea)⟩
        rw [t0, e190_54, h8, w1, e16, ← hυ]
        rcases l47 with l | l
        · rw [l] at w7
          simp only [w7, Int.reduceEq, if_false, if_true, t, Option.getD_some, Option.bind_some, Option.toList_some, Option.toList_none, List.cons_append, List.nil_append, and_self, and_true, true_and, false_and, and_false, ite_self, not_true_eq_false, not_false_eq_true, reduceIte, Nat.reduceEqDiff, ab_I, ab_L, ab_R, ao_I, ao_L, ao_R, gL_sL, gI_sI, gR_sR, gI_sL, gI_sR, gL_sI, gL_sR, gR_sI, gR_sL, e190_276]
        · rw [l] at w7
          simp only [w7, Int.reduceEq, if_false, t, Option.getD_some, Option.bind_some, Option.toList_some, Option.toList_none, List.cons_append, List.nil_append, and_self, and_true, true_and, false_and, and_false, ite_self, not_true_eq_false, not_false_eq_true, reduceIte, Nat.reduceEqDiff, ab_I, ab_L, ab_R, ao_I, ao_L, ao_R, gL_sL, gI_sI, gR_sR, gI_sL, gI_sR, gL_sI, gL_sR, gR_sI, gR_sL, e190_276]
    · rw [if_neg l47] at e opl'
      by_cases l56 : fL w = 5 ∨ fL w = 6
      · rw [if_pos l56] at e opl'
        -- all but helpers goes through one method
        have act : ¬ (fOp w = 133 ∧ fS w = 0) → ∀ τ, MM 196 [mR (some 71), mL w] υ = some (none, τ) → MM 190 [mR (some 71)] σ = some (none, τ) := fun nh τ t => by
          rw [t0, e190_54, h8, w1, e16, ← hυ]
          have go : RR (lkB tb190) (B190_263, [some (mR (some 71)), some (mL w), none, some (mI (fOp w)), none, none], [], υ) = some (none, τ) := by
            rw [e190_263, t]
            simp only [Option.getD_some, Option.bind_some, Option.toList_some, Option.toList_none, List.cons_append, List.nil_append, and_self, and_true, true_and, false_and, and_false, ite_self, not_true_eq_false, not_false_eq_true, reduceIte, Nat.reduceEqDiff, ab_I, ab_L, ab_R, ao_I, ao_L, ao_R, gL_sL, gI_sI, gR_sR, gI_sL, gI_sR, gL_sI, gL_sR, gR_sI, gR_sL, e190_268, e190_276]
          by_cases h133 : fOp w = 133
          · have s0 : ¬ fS w = 0 := fun z => nh ⟨h133, z⟩
            have go' : RR (lkB tb190) (B190_243, [some (mR (some 71)), some (mL w), none, some (mI (fOp w)), none, none], [mI (fS w)], υ) = some (none, τ) := by
              rw [e190_243, if_pos s0]
              exact go
            have nn : ¬ ¬ fOp w = 133 := not_not_intro h133
            rcases l56 with l | l
            · rw [l] at w7
              simp only [w7, Int.reduceEq, if_false, if_true, nn, T2, Option.getD_some, Option.bind_some, Option.toList_some, Option.toList_none, List.cons_append, List.nil_append, and_self, and_true, true_and, false_and, and_false, ite_self, not_true_eq_false, not_false_eq_true, reduceIte, Nat.reduceEqDiff, ab_I, ab_L, ab_R, ao_I, ao_L, ao_R, gL_sL, gI_sI, gR_sR, gI_sL, gI_sR, gL_sI, gL_sR, gR_sI, gR_sL]
              exact go'
            · rw [l] at w7
              simp only [w7, Int.reduceEq, if_false, if_true, nn, T2, Option.getD_some, Option.bind_some, Option.toList_some, Option.toList_none, List.cons_append, List.nil_append, and_self, and_true, true_and, false_and, and_false, ite_self, not_true_eq_false, not_false_eq_true, reduceIte, Nat.reduceEqDiff, ab_I, ab_L, ab_R, ao_I, ao_L, ao_R, gL_sL, gI_sI, gR_sR, gI_sL, gI_sR, gL_sI, gL_sR, gR_sI, gR_sL]
              exact go'
          · rcases l56 with l | l
            · rw [l] at w7
              simp only [w7, Int.reduceEq, if_false, if_true, h133, not_false_eq_true]
              exact go
            · rw [l] at w7
              simp only [w7, Int.reduceEq, if_false, if_true, h133, not_false_eq_true]
              exact go
        have goq : ∀ i, stqC σ (sI υ 71 8 i) φ c1 0 (goT c1 i) := fun i => by
          refine ⟨mvC_t mu (mvC_I (by omega)), Or.inl ⟨rfl, RelC_g (RelC_i ru), ?_, ?_⟩⟩
          · rw [gI_sI, if_pos ⟨rfl, rfl⟩]
            rfl
          · rw [gI_sI, if_neg (by omega)]
            exact gu _ _ (by omega)
        by_cases j56 : fOp w = 5 ∨ fOp w = 6
        · rw [if_pos j56] at e
          cases e
          have gg := hg l56 (by omega) (by omega)
          rw [P1']
          exact ⟨_, φ, act (by omega) _ (jp_C u8 hi gg j56), goq _⟩
        · rw [if_neg j56] at e
          by_cases j149 : fOp w = 149
          · rw [if_pos j149] at e
            obtain ⟨τ, t, mv, rel, q⟩ := ex_C ru I1 e
            refine ⟨τ, φ, act (by omega) _ (je_C j149 t), mvC_t mu mv, ?_⟩
            rcases q with ⟨k0, q1, q2⟩ | ⟨k1, q1, q2, q3⟩
            · exact Or.inl ⟨k0, rel, q1, q2.trans (gu _ _ (by omega))⟩
            · rw [q2] at rel
              exact Or.inr (Or.inl ⟨k1, rel, q2, q1, q3⟩)
          · rw [if_neg j149] at e
            by_cases j133 : fOp w = 133
            · rw [if_pos j133] at e
              by_cases s1 : fS w = 1
              · rw [if_pos s1] at e
                by_cases n4 : cN c1 = 4
                · rw [if_pos n4] at e
                  cases e
                · rw [if_neg n4] at e
                  cases e
                  have gg := hg l56 j149 (fun _ => s1)
                  obtain ⟨τ, t, rel, mv, q8, q9⟩ := fn_C (g := goal (p : Int) w) ru I1 n4
                  rw [u8] at rel
                  rw [P1']
                  refine ⟨τ, φ, act (by omega) _ (jf_C u8 gg j133 t), mvC_t mu mv, Or.inl ⟨rfl, rel, q8, q9.trans (gu _ _ (by omega))⟩⟩
              · rw [if_neg s1] at e
                obtain ⟨eh, hk⟩ := hpG_T e
                have s0 : fS w = 0 := by
                  unfold okJmp at opl'
                  rw [if_neg (fun z => j56 (Or.inl z)), if_neg (fun z => j56 (Or.inr z)), if_pos j133] at opl'
                  rcases opl'.2 with q | q
                  · exact q.1
                  · exact absurd q s1
                have q := hp_allC ru bu I1 C1 hE hR hk eh
                obtain ⟨v, τ, ψ, t, sq⟩ := hpC_0 q (by rw [u8, P1'])
                refine ⟨sL τ 76 0 v, ψ, ?_, mvC_t mu sq.1, ?_⟩
                · have nn : ¬ ¬ fOp w = 133 := not_not_intro j133
                  have i0 : (0 : Int).toNat = 0 := rfl
                  have go : RR (lkB tb190) (B190_243, [some (mR (some 71)), some (mL w), none, some (mI (fOp w)), none, none], [mI (fS w)], υ) = some (none, sL τ 76 0 v) := by
                    rw [e190_243, if_neg (not_not_intro s0), T4]
                    simp only [Option.getD_some, Option.bind_some, Option.toList_some, Option.toList_none, List.cons_append, List.nil_append, and_self, and_true, true_and, false_and, and_false, ite_self, not_true_eq_false, not_false_eq_true, reduceIte, Nat.reduceEqDiff, ab_I, ab_L, ab_R, ao_I, ao_L, ao_R, gL_sL, gI_sI, gR_sR, gI_sL, gI_sR, gL_sI, gL_sR, gR_sI, gR_sL]
                    rw [e190_256, t]
                    simp only [Option.getD_some, Option.bind_some, Option.toList_some, Option.toList_none, List.cons_append, List.nil_append, and_self, and_true, true_and, false_and, and_false, ite_self, not_true_eq_false, not_false_eq_true, reduceIte, Nat.reduceEqDiff, ab_I, ab_L, ab_R, ao_I, ao_L, ao_R, gL_sL, gI_sI, gR_sR, gI_sL, gI_sR, gL_sI, gL_sR, gR_sI, gR_sL]
                    rw [e190_259]
                    simp only [Option.getD_some, Option.bind_some, Option.toList_some, Option.toList_none, List.cons_append, List.nil_append, and_self, and_true, true_and, false_and, and_false, ite_self, not_true_eq_false, not_false_eq_true, reduceIte, Nat.reduceEqDiff, ab_I, ab_L, ab_R, ao_I, ao_L, ao_R, gL_sL, gI_sI, gR_sR, gI_sL, gI_sR, gL_sI, gL_sR, gR_sI, gR_sL, g_76, Int.reduceLE, Int.reduceLT, i0, e190_276]
                  rw [t0, e190_54, h8, w1, e16, ← hυ]
                  rcases l56 with l | l
                  · rw [l] at w7
                    simp only [w7, Int.reduceEq, if_false, if_true, nn, T2, Option.getD_some, Option.bind_some, Option.toList_some, Option.toList_none, List.cons_append, List.nil_append, and_self, and_true, true_and, false_and, and_false, ite_self, not_true_eq_false, not_false_eq_true, reduceIte, Nat.reduceEqDiff, ab_I, ab_L, ab_R, ao_I, ao_L, ao_R, gL_sL, gI_sI, gR_sR, gI_sL, gI_sR, gL_sI, gL_sR, gR_sI, gR_sL]
                    exact go
                  · rw [l] at w7
                    simp only [w7, Int.reduceEq, if_false, if_true, nn, T2, Option.getD_some, Option.bind_some, Option.toList_some, Option.toList_none, List.cons_append, List.nil_append, and_self, and_true, true_and, false_and, and_false, ite_self, not_true_eq_false, not_false_eq_true, reduceIte, Nat.reduceEqDiff, ab_I, ab_L, ab_R, ao_I, ao_L, ao_R, gL_sL, gI_sI, gR_sR, gI_sL, gI_sR, gL_sI, gL_sR, gR_sI, gR_sL]
                    exact go
                · have u9 := gu 71 9 (by omega)
                  rcases sq.2 with ⟨q1, q2, q3, q4⟩ | ⟨q1, q2, q3, q4, q5⟩ | ⟨q1, q2, q3, q4, q5, q6⟩
                  · exact Or.inl ⟨q1, q2, q3, q4.trans u9⟩
                  · exact Or.inr (Or.inl ⟨q1, q2, q3, q4, q5⟩)
                  · exact Or.inr (Or.inr ⟨q1, q2, q3, q4, q5.trans u9, q6⟩)
            · rw [if_neg j133] at e
              unfold okJmp at opl'
              rw [if_neg (fun z => j56 (Or.inl z)), if_neg (fun z => j56 (Or.inr z)), if_neg j133, if_neg j149] at opl'
              obtain ⟨⟨ic, d10⟩, sr⟩ := opl'
              have s10 : rgt w → fS w ≤ 10 := fun r => by
                rw [if_pos r] at sr
                exact sr.1
              have gg := hg l56 j149 (fun z => absurd z j133)
              have hc := isCmp_of ic
              have t := cm_C u8 gg l56 ⟨fun z => j56 (Or.inl z), fun z => j56 (Or.inr z), j149, j133⟩ hc d10 s10
              cases eb : cmT c1 w with
              | none =>
                rw [eb] at e
                cases e
              | some b =>
                rw [eb] at e
                cases e
                have hx := cmX_C ru eb hc d10 s10
                rw [hx] at t
                rw [P1']
                cases b with
                | true =>
                  rw [if_pos rfl] at t ⊢
                  exact ⟨_, φ, act (fun z => j133 z.1) _ t, goq _⟩
                | false =>
                  rw [if_neg (show ¬ (false = true) by decide)] at t ⊢
                  exact ⟨_, φ, act (fun z => j133 z.1) _ t, mu, Or.inl ⟨rfl, RelC_g ru, u8, gu _ _ (by omega)⟩⟩
      · rw [if_neg l56] at e opl'
        have t3 : MM 3 [mL w] υ = some (some (mI (fO w)), υ) := T3
        by_cases l1 : fL w = 1
        · rw [if_pos l1] at e
          cases el : ldT RB RH c1 w with
          | none =>
            rw [el] at e
            cases e
          | some v =>
            rw [el] at e
            cases e
            obtain ⟨z, t, ez, kv, lv⟩ := ld_C ru I1 opl' l1 el
            have opm := opl'
            unfold okMem at opm
            rw [if_pos l1] at opm
            obtain ⟨hm, d9, hs, _⟩ := opm
            rw [P1']
            refine ⟨_, φ, ?_, fin0 d9 kv lv⟩
            have w224 : iAnd (fOp w) 224 = fM w := m224 w
            have t1 : MM 1 [mL w] υ = some (some (mI ((dR w : Nat) : Int)), υ) := by rw [T1, eD]
            have t2 : MM 2 [mL w] υ = some (some (mI ((sRr w : Nat) : Int)), υ) := by rw [T2, eS]
            have b8 := byt_1 w
            rw [l1] at w7
            rw [t0, e190_54, h8, w1, e16, ← hυ]
            simp only [w7, Int.reduceEq, if_false, if_true, t2, Option.getD_some, Option.bind_some, Option.toList_some, Option.toList_none, List.cons_append, List.nil_append, and_self, and_true, true_and, false_and, and_false, ite_self, not_true_eq_false, not_false_eq_true, reduceIte, Nat.reduceEqDiff, ab_I, ab_L, ab_R, ao_I, ao_L, ao_R, gL_sL, gI_sI, gR_sR, gI_sL, gI_sR, gL_sI, gL_sR, gR_sI, gR_sL]
            rw [e190_137]
            simp only [Option.getD_some, Option.bind_some, Option.toList_some, Option.toList_none, List.cons_append, List.nil_append, and_self, and_true, true_and, false_and, and_false, ite_self, not_true_eq_false, not_false_eq_true, reduceIte, Nat.reduceEqDiff, ab_I, ab_L, ab_R, ao_I, ao_L, ao_R, gL_sL, gI_sI, gR_sR, gI_sL, gI_sR, gL_sI, gL_sR, gR_sI, gR_sL, g_76, bS.1, bS.2, Int.toNat_natCast, t3]
            rw [e190_142, T5]
            simp only [Option.getD_some, Option.bind_some, Option.toList_some, Option.toList_none, List.cons_append, List.nil_append, and_self, and_true, true_and, false_and, and_false, ite_self, not_true_eq_false, not_false_eq_true, reduceIte, Nat.reduceEqDiff, ab_I, ab_L, ab_R, ao_I, ao_L, ao_R, gL_sL, gI_sI, gR_sR, gI_sL, gI_sR, gL_sI, gL_sR, gR_sI, gR_sL]
            rw [e190_148, t]
            simp only [Option.getD_some, Option.bind_some, Option.toList_some, Option.toList_none, List.cons_append, List.nil_append, and_self, and_true, true_and, false_and, and_false, ite_self, not_true_eq_false, not_false_eq_true, reduceIte, Nat.reduceEqDiff, ab_I, ab_L, ab_R, ao_I, ao_L, ao_R, gL_sL, gI_sI, gR_sR, gI_sL, gI_sR, gL_sI, gL_sR, gR_sI, gR_sL]
            rw [e190_151, t1]
            simp only [Option.getD_some, Option.bind_some, Option.toList_some, Option.toList_none, List.cons_append, List.nil_append, and_self, and_true, true_and, false_and, and_false, ite_self, not_true_eq_false, not_false_eq_true, reduceIte, Nat.reduceEqDiff, ab_I, ab_L, ab_R, ao_I, ao_L, ao_R, gL_sL, gI_sI, gR_sR, gI_sL, gI_sR, gL_sI, gL_sR, gR_sI, gR_sL]
            rw [e190_161, w224]
            have last : ∀ z', z' = enK φ v → RR (lkB tb190) (B190_189, [some (mR (some 71)), some (mL w), none, some (mI (fOp w)), some (mL z), none], [mL z', mI ((dR w : Nat) : Int), mR (some 76)], υ) = some (none, sL υ 76 (dR w) (enK φ v)) := fun z' ez' => by
              rw [e190_189, ez']
              simp only [Option.getD_some, Option.bind_some, Option.toList_some, Option.toList_none, List.cons_append, List.nil_append, and_self, and_true, true_and, false_and, and_false, ite_self, not_true_eq_false, not_false_eq_true, reduceIte, Nat.reduceEqDiff, ab_I, ab_L, ab_R, ao_I, ao_L, ao_R, gL_sL, gI_sI, gR_sR, gI_sL, gI_sR, gL_sI, gL_sR, gR_sI, gR_sL, g_76, bD.1, bD.2, Int.toNat_natCast]
              exact RR_q (ls := [some (mR (some 71)), some (mL w), none, some (mI (fOp w)), none, none]) e190_276 (by repeat (first | exact lq_nil | refine lq_cons (Or.inr rfl) ?_ | refine lq_cons (Or.inl rfl) ?_))
            by_cases m128 : fM w = 128
            · rw [if_pos m128] at ez
              rw [if_neg (not_not_intro m128), T5]
              simp only [Option.getD_some, Option.bind_some, Option.toList_some, Option.toList_none, List.cons_append, List.nil_append, and_self, and_true, true_and, false_and, and_false, ite_self, not_true_eq_false, not_false_eq_true, reduceIte, Nat.reduceEqDiff, ab_I, ab_L, ab_R, ao_I, ao_L, ao_R, gL_sL, gI_sI, gR_sR, gI_sL, gI_sR, gL_sI, gL_sR, gR_sI, gR_sL]
              have b64 : bytN w < 8 := by
                rcases hm with q | q
                · omega
                · have n3 := q.2
                  have r : fB w = 0 ∨ fB w = 1 ∨ fB w = 2 := by
                    have : fB w = fOp w / 8 % 4 := rfl
                    omega
                  unfold bytN
                  rcases r with r | r | r <;> rw [r] <;> decide
              have w8' : w32 (8 * ((bytN w : Nat) : Int)) = ((8 * bytN w : Nat) : Int) := by
                rw [w32_i (by omega) (by omega)]
                omega
              have t19 := T19 (σ := υ) (x := z) (b := 8 * bytN w) (by omega) (by omega)
              rw [e190_180, w8', t19]
              simp only [Option.getD_some, Option.bind_some, Option.toList_some, Option.toList_none, List.cons_append, List.nil_append, and_self, and_true, true_and, false_and, and_false, ite_self, not_true_eq_false, not_false_eq_true, reduceIte, Nat.reduceEqDiff, ab_I, ab_L, ab_R, ao_I, ao_L, ao_R, gL_sL, gI_sI, gR_sR, gI_sL, gI_sR, gL_sI, gL_sR, gR_sI, gR_sL]
              rw [e190_184]
              exact last _ ez
            · rw [if_neg m128] at ez
              rw [if_pos m128]
              exact last _ ez
        · rw [if_neg l1] at e
          have l23 : fL w = 2 ∨ fL w = 3 := by
            have : fL w = fOp w % 8 := rfl
            omega
          have act3 : fL w = 3 → ∀ τ, MM 195 [mR (some 71), mL w] υ = some (none, τ) → MM 190 [mR (some 71)] σ = some (none, τ) := fun l τ t => by
            rw [l] at w7
            rw [t0, e190_54, h8, w1, e16, ← hυ]
            simp only [w7, Int.reduceEq, if_false, if_true, t, Option.getD_some, Option.bind_some, Option.toList_some, Option.toList_none, List.cons_append, List.nil_append, and_self, and_true, true_and, false_and, and_false, ite_self, not_true_eq_false, not_false_eq_true, reduceIte, Nat.reduceEqDiff, ab_I, ab_L, ab_R, ao_I, ao_L, ao_R, gL_sL, gI_sI, gR_sR, gI_sL, gI_sR, gL_sI, gL_sR, gR_sI, gR_sL, e190_229, e190_276]
          by_cases sw : fL w = 3 ∧ fM w = 192
          · rw [if_pos sw] at e
            cases es : swT RB c1 w with
            | none =>
              rw [es] at e
              cases e
            | some c2 =>
              rw [es] at e
              cases e
              obtain ⟨τ, t, rel, mv, gs⟩ := sw_C ru I1 opl' sw.1 sw.2 es
              rw [P1']
              exact ⟨τ, φ, act3 sw.1 _ t, mvC_t mu mv, Or.inl ⟨rfl, RelC_g rel, (gs _ _ (by decide)).trans u8, (gs _ _ (by decide)).trans (gu _ _ (by omega))⟩⟩
          · rw [if_neg sw] at e
            have ds : fM w = 96 ∧ fD w ≤ 10 ∧ (fL w = 3 → fS w ≤ 10) := by
              have opm := opl'
              unfold okMem at opm
              rw [if_neg l1] at opm
              by_cases l2 : fL w = 2
              · rw [if_pos l2] at opm
                exact ⟨opm.1, opm.2.1, fun z => by omega⟩
              · rw [if_neg l2] at opm
                by_cases m : fM w = 96
                · rw [if_pos m] at opm
                  exact ⟨m, opm.1, fun _ => opm.2.1⟩
                · rw [if_neg m] at opm
                  have : fM w = fOp w / 32 * 32 := rfl
                  exfalso
                  omega
            cases es : stoT RB RH c1 w with
            | none =>
              rw [es] at e
              cases e
            | some c2 =>
              rw [es] at e
              cases e
              obtain ⟨τ, t, rel, mv, gs⟩ := st_C ru I1 opl' l23 ds.1 es
              have fin : stqC σ τ φ c1 0 (goT c2 (cP c1 + 1)) := ⟨mvC_t mu mv, Or.inl ⟨rfl, RelC_g rel, by rw [gs _ _ (by decide), u8, P1']; rfl, (gs _ _ (by decide)).trans (gu _ _ (by omega))⟩⟩
              by_cases l3 : fL w = 3
              · have sv : stvC υ w = gL υ 76 (sRr w) := if_pos l3
                rw [sv] at t
                exact ⟨τ, φ, act3 l3 _ (T195s (ds.2.2 l3) ds.2.1 ds.1 t), fin⟩
              · have l2 : fL w = 2 := by omega
                have sv : stvC υ w = iL (fI w) := if_neg l3
                rw [sv] at t
                refine ⟨τ, φ, ?_, fin⟩
                have t1 : MM 1 [mL w] υ = some (some (mI ((dR w : Nat) : Int)), υ) := by rw [T1, eD]
                rw [l2] at w7
                rw [t0, e190_54, h8, w1, e16, ← hυ]
                simp only [w7, Int.reduceEq, if_false, if_true, t1, Option.getD_some, Option.bind_some, Option.toList_some, Option.toList_none, List.cons_append, List.nil_append, and_self, and_true, true_and, false_and, and_false, ite_self, not_true_eq_false, not_false_eq_true, reduceIte, Nat.reduceEqDiff, ab_I, ab_L, ab_R, ao_I, ao_L, ao_R, gL_sL, gI_sI, gR_sR, gI_sL, gI_sR, gL_sI, gL_sR, gR_sI, gR_sL]
                rw [e190_202]
                simp only [Option.getD_some, Option.bind_some, Option.toList_some, Option.toList_none, List.cons_append, List.nil_append, and_self, and_true, true_and, false_and, and_false, ite_self, not_true_eq_false, not_false_eq_true, reduceIte, Nat.reduceEqDiff, ab_I, ab_L, ab_R, ao_I, ao_L, ao_R, gL_sL, gI_sI, gR_sR, gI_sL, gI_sR, gL_sI, gL_sR, gR_sI, gR_sL, g_76, bD.1, bD.2, Int.toNat_natCast, t3]
                rw [e190_207, T4]
                simp only [Option.getD_some, Option.bind_some, Option.toList_some, Option.toList_none, List.cons_append, List.nil_append, and_self, and_true, true_and, false_and, and_false, ite_self, not_true_eq_false, not_false_eq_true, reduceIte, Nat.reduceEqDiff, ab_I, ab_L, ab_R, ao_I, ao_L, ao_R, gL_sL, gI_sI, gR_sR, gI_sL, gI_sR, gL_sI, gL_sR, gR_sI, gR_sL]
                rw [e190_213, T5]
                simp only [Option.getD_some, Option.bind_some, Option.toList_some, Option.toList_none, List.cons_append, List.nil_append, and_self, and_true, true_and, false_and, and_false, ite_self, not_true_eq_false, not_false_eq_true, reduceIte, Nat.reduceEqDiff, ab_I, ab_L, ab_R, ao_I, ao_L, ao_R, gL_sL, gI_sI, gR_sR, gI_sL, gI_sR, gL_sI, gL_sR, gR_sI, gR_sL]
                rw [e190_218, t]
                simp only [Option.getD_some, Option.bind_some, Option.toList_some, Option.toList_none, List.cons_append, List.nil_append, and_self, and_true, true_and, false_and, and_false, ite_self, not_true_eq_false, not_false_eq_true, reduceIte, Nat.reduceEqDiff, ab_I, ab_L, ab_R, ao_I, ao_L, ao_R, gL_sL, gI_sI, gR_sR, gI_sL, gI_sR, gL_sI, gL_sR, gR_sI, gR_sL, e190_221, e190_276]
end CACT
