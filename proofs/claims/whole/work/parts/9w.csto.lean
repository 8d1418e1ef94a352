/-! ===== the class's runs: bytes that are put ===== -/
section CSTO
variable {σ τ ρ : MS} {c c' : TC WR} {W V : WR} {w x A a z : B64} {v : SV} {r f b k n o s p m P : Nat} {l : List B64} {y : Int} {φ : Nat → Nat}
/-- a byte of the room changes, and the rest of the machine with it -/
theorem wldC_1 (h : wldC σ φ W) (hW : ∀ k s, ¬ (k = 100 ∨ k = 144 ∨ k = 149) → wg V k s = wg W k s) (h2 : V.2 = W.2) (hP : ¬ (768 ≤ P ∧ P < 788))
    (d12 : ∀ m e b : Nat, m < 8 → wg W 96 m = 3 → (e : Int) < wg W 107 m → b < 64 → ¬ 17172 + 64 * (16 * m + (gI σ 35 (16 * m + e)).toNat) + b = P)
    (d4 : ∀ s, s < 16384 → wg V 100 s = gI (sI σ 27 P y) 27 (788 + s)) (d5 : ∀ s : Nat, (s : Int) < wg W 80 105 → wg V 144 s = gI (sI σ 27 P y) 27 s)
    (d13 : ∀ i, i < 64 → ¬ wg W 152 i = 0 → ∀ b, b < 64 → wg V 149 (64 * i + b) = gI (sI σ 27 P y) 27 (17172 + 64 * φ i + b)) : wldC (sI σ 27 P y) φ V := by
  have g : ∀ k s, ¬ k = 27 → gI (sI σ 27 P y) k s = gI σ k s := fun k s z => by rw [gI_sI, if_neg (fun q => z q.1)]
  have g7 : ∀ s, ¬ s = P → gI (sI σ 27 P y) 27 s = gI σ 27 s := fun s z => by rw [gI_sI, if_neg (fun q => z q.2)]
  obtain ⟨hm, k4, k5, k6, k7, k8, k9, k10, k11⟩ := h
  exact ⟨wldM_q hm (fun k s z => g _ _ (by omega)) (fun k s z => hW _ _ (by omega)) (fun m e b hm z he hb => g7 _ (d12 m e b hm z he hb)) (fun i hi z q b hb y => d13 i hi z b hb),
    d4, fun s z => d5 s (by rw [hW _ _ (by omega)] at z; exact z), wcZ_q k6 (fun s z => g _ _ (by omega)) (fun s z => hW _ _ (by omega)), wcG_q k7 (fun s => g _ _ (by omega)) (fun s => hW _ _ (by omega)),
    wcX_q k8 (fun s => g _ _ (by omega)) (fun s => hW _ _ (by omega)) (hW _ _ (by omega)), wcC_q k9 (fun s z => g7 _ (by omega)) (hW _ _ (by omega)), wcY_q k10 (fun s z => g7 _ (by omega)) (fun s z => hW _ _ (by omega)), wcL_q k11 rfl rfl h2⟩
/-- a byte is put -/
theorem wrB_C (h : RelC σ φ c) (pk : wg (cW c) 80 105 ≤ 256) (hx : x.toNat < 256) (e : wrB RB c o b x = some c') : obR o b ∧ plC φ o + b < 25364 ∧ RelC (sI σ 27 (plC φ o + b) (kpW x)) φ c' := by
  obtain ⟨a, ⟨b1, b2, b3⟩, d, bk, ⟨l1, l2⟩, wl⟩ := h
  have wl' := wl
  obtain ⟨⟨km, kh, k14⟩, k4, k5, k6, k7, k8, k9, k10, k11⟩ := wl'
  -- a finished record lies where none is held
  have fin_ : ∀ i, i < 64 → ¬ wg (cW c) 152 i = 0 → ∀ m e b : Nat, m < 8 → wg (cW c) 96 m = 3 → (e : Int) < wg (cW c) 107 m → b < 64 → ∀ b', b' < 64 → ¬ 17172 + 64 * (16 * m + (gI σ 35 (16 * m + e)).toNat) + b = 17172 + 64 * φ i + b' := fun i hi hh m e b hm h3 he hb b' hb' z => by
    obtain ⟨q1, q2, q3, _⟩ := kh i hi hh
    obtain ⟨_, _, q4⟩ := (km m hm).2.2.2.1 h3
    obtain ⟨q5, q6, _⟩ := q4 e he
    have e1 : φ i = 16 * m + (gI σ 35 (16 * m + e)).toNat := by omega
    have e2 : φ i / 16 = m := by omega
    have e3 : φ i % 16 = (gI σ 35 (16 * m + e)).toNat := by omega
    rw [e2, e3, q6] at q3
    exact absurd q3 (by decide)
  have rg : ∀ P y, rgsC (sI σ 27 P y) φ c := fun P y => ⟨b1, b2, b3⟩
  have bkk : ∀ P y, bckC (sI σ 27 P y) c := fun P y f f1 f2 => by
    rw [gI_sI, if_neg (by omega)]
    exact bk f f1 f2
  have stk : ∀ P y, ¬ (256 ≤ P ∧ P < 768) → stkC (sI σ 27 P y) φ c := fun P y hP f b hf hb => by
    rw [gI_sI, if_neg (by omega)]
    exact d f b hf hb
  have a' : ∀ P y, gI (sI σ 27 P y) 71 6 = (cN c : Int) - 1 := fun P y => by
    rw [gI_sI, if_neg (by omega)]
    exact a.2
  unfold wrB at e
  by_cases q1 : 2 ≤ o ∧ o ≤ 5
  · rw [if_pos q1] at e
    by_cases q2 : b < 128
    · rw [if_pos q2] at e
      have e := Option.some.inj e
      rw [pl_s q1, ← e]
      refine ⟨Or.inl ⟨q1, q2⟩, by omega, ⟨a.1, a' _ _⟩, rg _ _, fun f b' hf hb' => ?_, bkk _ _, ⟨l1, fun f b' z => ?_⟩, ?_⟩
      · show mbC φ _ (if f = o - 2 ∧ b' = b then (1, 0, x) else cS c f b')
        rw [gI_sI]
        by_cases z : f = o - 2 ∧ b' = b
        · rw [if_pos z, if_pos ⟨rfl, by rw [z.1, z.2]⟩]
          exact ⟨fun _ => kpW_I hx, fun y => absurd y (show ¬ 2 ≤ (1 : Nat) by decide)⟩
        · rw [if_neg z, if_neg (by omega)]
          exact d f b' hf hb'
      · have z : 2 ≤ (if f = o - 2 ∧ b' = b then ((1, 0, x) : MB) else cS c f b').1 := z
        show 300 ≤ (if f = o - 2 ∧ b' = b then ((1, 0, x) : MB) else cS c f b').2.1 → (if f = o - 2 ∧ b' = b then ((1, 0, x) : MB) else cS c f b').2.1 ≤ 363 ∧ ¬ wg (cW c) 152 ((if f = o - 2 ∧ b' = b then ((1, 0, x) : MB) else cS c f b').2.1 - 300) = 0
        by_cases q : f = o - 2 ∧ b' = b
        · rw [if_pos q] at z
          exact absurd z (show ¬ 2 ≤ (1 : Nat) by decide)
        · rw [if_neg q] at z ⊢
          exact l2 f b' z
      · refine wldC_1 (V := cW c) wl (fun _ _ _ => rfl) rfl (by omega) (fun m e b hm h3 he hb => by omega) (fun s hs => ?_) (fun (s : Nat) z => ?_) (fun i hi hh b hb => ?_)
        · rw [gI_sI, if_neg (by omega)]
          exact k4 s hs
        · rw [gI_sI, if_neg (by omega)]
          exact k5 s z
        · rw [gI_sI, if_neg (by omega)]
          exact (kh i hi hh).2.2.2.2.1 b hb
    · rw [if_neg q2] at e
      cases e
  · rw [if_neg q1] at e
    by_cases q3 : 16 ≤ o ∧ o ≤ 271
    · rw [if_pos q3] at e
      by_cases q2 : b < 64
      · rw [if_pos q2] at e
        have e := Option.some.inj e
        have eV : RB.2.2.1 (cW c) o b x = wset (cW c) 100 (64 * (o - 16) + b) (kpW x) := if_pos q3.2
        rw [eV] at e
        rw [pl_c q3, ← e]
        refine ⟨Or.inr (Or.inl ⟨q3, q2⟩), by omega, ⟨a.1, a' _ _⟩, rg _ _, stk _ _ (by omega), bkk _ _, ⟨l1, l2⟩, ?_⟩
        refine wldC_1 wl (fun k s z => wg_wset_o (by omega)) rfl (by omega) (fun m e b hm h3 he hb => by omega) (fun s hs => ?_) (fun (s : Nat) z => ?_) (fun i hi hh b hb => ?_)
        · rw [wg_wset, gI_sI]
          by_cases z : s = 64 * (o - 16) + b
          · rw [if_pos ⟨rfl, z⟩, if_pos ⟨rfl, by omega⟩]
          · rw [if_neg (fun q => z q.2), if_neg (by omega)]
            exact k4 s hs
        · rw [wg_wset_o (by decide), gI_sI, if_neg (by omega)]
          exact k5 s z
        · rw [wg_wset_o (by decide), gI_sI, if_neg (by omega)]
          exact (kh i hi hh).2.2.2.2.1 b hb
      · rw [if_neg q2] at e
        cases e
    · rw [if_neg q3] at e
      by_cases q4 : o = 280
      · rw [if_pos q4] at e
        by_cases q2 : b < RB.1 (cW c)
        · rw [if_pos q2] at e
          have e := Option.some.inj e
          have l6 : RB.1 (cW c) ≤ 256 := RB_ok.2.2 _
          have eV : RB.2.2.1 (cW c) o b x = wset (cW c) 144 b (kpW x) := (if_neg (by omega)).trans (if_pos q4)
          have e' := Eq.trans (congrArg (fun V => (cP c, cN c, cR c, cS c, cB c, V)) eV).symm e
          subst q4
          rw [pl_p, Nat.zero_add, ← e']
          refine ⟨Or.inr (Or.inr (Or.inl ⟨rfl, by omega⟩)), by omega, ⟨a.1, a' _ _⟩, rg _ _, stk _ _ (by omega), bkk _ _, ⟨l1, l2⟩, ?_⟩
          refine wldC_1 wl (fun k s z => wg_wset_o (by omega)) rfl (by omega) (fun m e b hm h3 he hb => by omega) (fun s hs => ?_) (fun (s : Nat) z => ?_) (fun i hi hh b hb => ?_)
          · rw [wg_wset_o (by decide), gI_sI, if_neg (by omega)]
            exact k4 s hs
          · rw [wg_wset, gI_sI]
            by_cases y : s = b
            · rw [if_pos ⟨rfl, y⟩, if_pos ⟨rfl, y⟩]
            · rw [if_neg (fun q => y q.2), if_neg (fun q => y q.2)]
              exact k5 s z
          · rw [wg_wset_o (by decide), gI_sI, if_neg (by omega)]
            exact (kh i hi hh).2.2.2.2.1 b hb
        · rw [if_neg q2] at e
          cases e
      · rw [if_neg q4] at e
        by_cases q5 : 300 ≤ o ∧ o ≤ 363
        · rw [if_pos q5] at e
          by_cases q2 : b < 64 ∧ RB.2.2.2.1 (cW c) (o - 300) = true
          · rw [if_pos q2] at e
            have e := Option.some.inj e
            have hh : ¬ wg (cW c) 152 (o - 300) = 0 := of_decide_eq_true q2.2
            have m1 := (kh (o - 300) (by omega) hh).1
            have eV : RB.2.2.1 (cW c) o b x = wset (cW c) 149 (64 * (o - 300) + b) (kpW x) := (if_neg (by omega)).trans (if_neg q4)
            rw [eV] at e
            rw [pl_r q5, ← e]
            refine ⟨Or.inr (Or.inr (Or.inr ⟨q5, q2.1⟩)), by omega, ⟨a.1, a' _ _⟩, rg _ _, stk _ _ (by omega), bkk _ _, ⟨l1, l2⟩, ?_⟩
            refine wldC_1 wl (fun k s z => wg_wset_o (by omega)) rfl (by omega) (fun m e b' hm h3 he hb => fin_ (o - 300) (by omega) hh m e b' hm h3 he hb b q2.1) (fun s hs => ?_) (fun (s : Nat) z => ?_) (fun i hi hh' b' hb => ?_)
            · rw [wg_wset_o (by decide), gI_sI, if_neg (by omega)]
              exact k4 s hs
            · rw [wg_wset_o (by decide), gI_sI, if_neg (by omega)]
              exact k5 s z
            · rw [wg_wset, gI_sI]
              by_cases y : i = o - 300
              · by_cases y2 : b' = b
                · rw [if_pos ⟨rfl, by rw [y, y2]⟩, if_pos ⟨rfl, by rw [y, y2]⟩]
                · rw [if_neg (by omega), if_neg (by rw [y]; omega)]
                  exact (kh i hi hh').2.2.2.2.1 b' hb
              · have nf : ¬ φ i = φ (o - 300) := fun z => y (k14 i (o - 300) hi (by omega) hh' hh z)
                rw [if_neg (by omega), if_neg (by omega)]
                exact (kh i hi hh').2.2.2.2.1 b' hb
          · rw [if_neg q2] at e
            cases e
        · rw [if_neg q5] at e
          cases e
/-- bytes are put -/
theorem wrL_C : ∀ (l : List B64) (b : Nat) (σ : MS) (c : TC WR), RelC σ φ c → invW (cW c) → (∀ y ∈ l, y.toNat < 256) → wrL RB c o b l = some c' → (∀ i, i < l.length → obR o (b + i)) ∧ (1 ≤ l.length → plC φ o + b + l.length ≤ 25364) ∧ RelC (wzS σ 27 (plC φ o + b) (l.map kpW)) φ c' := by
  intro l
  induction l with
  | nil =>
    intro b σ c h _ _ e
    cases e
    exact ⟨fun i hi => absurd hi (Nat.not_lt_zero _), fun z => absurd z (by decide), h⟩
  | cons v l ih =>
    intro b σ c h hI hy e
    unfold wrL at e
    cases e1 : wrB RB c o b v with
    | none =>
      rw [e1] at e
      cases e
    | some c1 =>
      rw [e1] at e
      obtain ⟨a1, a2, a3⟩ := wrB_C h hI.2.2.2.1.1.2 (hy v (List.mem_cons_self ..)) e1
      obtain ⟨b1, b2, b3⟩ := ih (b + 1) _ c1 a3 (wrB_i hI e1) (fun y q => hy y (List.mem_cons_of_mem _ q)) e
      refine ⟨fun i hi => ?_, fun _ => ?_, ?_⟩
      · cases i with
        | zero => exact a1
        | succ i =>
          have hi : i + 1 < l.length + 1 := hi
          have := b1 i (by omega)
          rwa [show b + 1 + i = b + (i + 1) by omega] at this
      · rw [List.length_cons]
        by_cases z : l.length = 0
        · omega
        · have := b2 (by omega)
          omega
      · rw [List.map_cons]
        show RelC (wzS (sI σ 27 (plC φ o + b) (kpW v)) 27 (plC φ o + b + 1) (l.map kpW)) φ c'
        rw [show plC φ o + b + 1 = plC φ o + (b + 1) by omega]
        exact b3
end CSTO
