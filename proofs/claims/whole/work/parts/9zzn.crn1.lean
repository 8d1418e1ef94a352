/-! ===== the class's runs, way 1: from turn to turn ===== -/
/-- the slot's plain code lies in K, words at st -/
def trnX (σ : MS) (s : Nat) (p : Nat → B64) (n K : Nat) (st : Nat → Int) : Prop := gR σ 73 s = some K ∧ kd σ K = (3, 4800) ∧ 153 ≤ K ∧ gI σ 74 s = ((layN p n (n + 1) 0 0 : Nat) : Int) ∧ layN p n (n + 1) 0 0 ≤ 6 * n ∧ ∀ x ∈ layP p n (n + 1) 0 0, st x.1 = (x.2 : Int) ∧ codQ σ K st x.2 (wQ p n x.1 x.2)
/-- slots that are turned -/
def tuC (σ : MS) : Prop := ∀ s, s < 8 → ¬ gI σ 17 s = 0 → trnC σ s (fun j => gL σ (7 + s) j) (gI σ 15 s).toNat
/-- how many cells hold code -/
def ccn (σ : MS) : Int := cnt 8 fun s => (gR σ 73 s).isSome
/-- plain code lies apart -/
def cdD (B0 T0 : Int) (σ : MS) : Prop := (∀ s K, s < 8 → gR σ 73 s = some K → kd σ K = (3, 4800) ∧ 153 ≤ K ∧ K < nC σ) ∧ (∀ s t K, s < 8 → t < 8 → gR σ 73 s = some K → gR σ 73 t = some K → s = t) ∧ (153 ≤ nC σ ∧ ((nC σ : Int) = B0 + ccn σ ∧ (tS σ : Int) = T0 + 4800 * ccn σ))
/-- what a run with turnings moves -/
def mvT (σ ρ : MS) : Prop := (∀ k z, k < 153 → ¬ movC k z → ¬ (k = 72 ∨ k = 75 ∨ k = 74 ∨ k = 17) → gI ρ k z = gI σ k z) ∧ (∀ k z, k < 153 → ¬ (k = 76 ∨ k = 77) → ¬ (k = 71 ∧ (z = 13 ∨ z = 16)) → gL ρ k z = gL σ k z) ∧ (∀ k z, k < 153 → ¬ k = 73 → ¬ (k = 72 ∧ z = 3) → gR ρ k z = gR σ k z) ∧ (∀ k, 153 ≤ k → k < nC σ → (∀ s, s < 8 → ¬ gR σ 73 s = some k) → (∀ z, gI ρ k z = gI σ k z ∧ gL ρ k z = gL σ k z ∧ gR ρ k z = gR σ k z) ∧ kd ρ k = kd σ k) ∧ nC σ ≤ nC ρ ∧ ∀ s k, s < 8 → gR ρ 73 s = some k → gR σ 73 s = some k ∨ nC σ ≤ k
section CRN1
variable {B0 T0 : Int} {σ τ ρ υ ω : MS} {w w2 X Y v x3 : B64} {m f i j s t N K P Q d e x x' o b p z : Nat} {x1 y : Int} {c c' c1 r : TC WR} {φ ψ : Nat → Nat} {st : Nat → Int} {L : List Q4} {u : SV} {E : EV} {S : Nat → Bool}
theorem T111n (s8 : s < 8) (h : ¬ gI σ 17 s = 0) : MM 111 [mR (some 72), mR (some 5), mI (s : Int)] σ = some (none, σ) := by
  have b8 : 0 ≤ (s : Int) ∧ (s : Int) < 8 := by omega
  rw [M111, e111_0, if_pos (g_17 (σ := σ) (i := (s : Int)) ▸ b8), Int.toNat_natCast, if_neg h]
theorem trs_179 : ∀ (k j : Nat) (σ : MS), trs k σ τ → j + k ≤ 1000000 → RR (lkB tb179) (B179_53, [some (mR (some 71)), some (mI x1), some (mI 1), some (mL x3), none, some (mI (j : Int))], [], σ) = RR (lkB tb179) (B179_53, [some (mR (some 71)), some (mI x1), some (mI 1), some (mL x3), none, some (mI ((j + k : Nat) : Int))], [], τ) := by
  intro k
  induction k with
  | zero =>
    intro j σ t hj
    have t : σ = τ := t
    rw [t]
    rfl
  | succ k ih =>
    intro j σ t hj
    obtain ⟨⟨h9, h17, h0, h8⟩, ρ, t, u⟩ := t
    obtain ⟨s, hs⟩ : ∃ s : Nat, gI σ 71 7 = (s : Int) := ⟨(gI σ 71 7).toNat, by omega⟩
    rw [hs, Int.toNat_natCast] at h17
    have t1 := T111n (σ := σ) (s := s) (by omega) h17
    have j3 : ¬ (1000000 : Int) ≤ (j : Int) := by omega
    have n1 : ¬ (1 : Int) = 0 := by decide
    have ww : w32 ((j : Int) + 1) = ((j + 1 : Nat) : Int) := by
      rw [w32_i (by omega) (by omega)]
      rfl
    rw [e179_53, if_neg j3, h9, if_neg (not_not_intro rfl), if_pos n1, hs, t1]
    simp only [Option.getD_some, Option.bind_some, Option.toList_some, Option.toList_none, List.cons_append, List.nil_append, and_self, and_true, true_and, false_and, and_false, ite_self, not_true_eq_false, not_false_eq_true, reduceIte, Nat.reduceEqDiff, ab_I, ab_L, ab_R, ao_I, ao_L, ao_R, gL_sL, gI_sI, gR_sR, gI_sL, gI_sR, gL_sI, gL_sR, gR_sI, gR_sL]
    rw [e179_93, t]
    simp only [Option.getD_some, Option.bind_some, Option.toList_some, Option.toList_none, List.cons_append, List.nil_append, and_self, and_true, true_and, false_and, and_false, ite_self, not_true_eq_false, not_false_eq_true, reduceIte, Nat.reduceEqDiff, ab_I, ab_L, ab_R, ao_I, ao_L, ao_R, gL_sL, gI_sI, gR_sR, gI_sL, gI_sR, gL_sI, gL_sR, gR_sI, gR_sL]
    rw [e179_101, ww, ih (j + 1) ρ u (by omega), show j + 1 + k = j + (k + 1) by omega]
/-- a slot is turned at its first turn -/
theorem turn_1 (s8 : s < 8) (hs : gI σ 71 7 = (s : Int)) (hs' : gI τ 71 7 = (s : Int)) (h9 : gI σ 71 9 = 0) (h9' : gI τ 71 9 = 0) (h17 : ¬ gI τ 17 s = 0) (t : MM 111 [mR (some 72), mR (some 5), mI (s : Int)] σ = some (none, τ)) (hj : j < 1000000) : RR (lkB tb179) (B179_53, [some (mR (some 71)), some (mI x1), some (mI 1), some (mL x3), none, some (mI (j : Int))], [], σ) = RR (lkB tb179) (B179_53, [some (mR (some 71)), some (mI x1), some (mI 1), some (mL x3), none, some (mI (j : Int))], [], τ) := by
  have t1 := T111n (σ := τ) s8 h17
  have j3 : ¬ (1000000 : Int) ≤ (j : Int) := by omega
  have n1 : ¬ (1 : Int) = 0 := by decide
  rw [e179_53, e179_53, if_neg j3, if_neg j3, h9, h9', if_neg (not_not_intro rfl), if_neg (not_not_intro rfl), if_pos n1, if_pos n1, hs, hs', t, t1]
theorem mvT_r : mvT σ σ := ⟨fun _ _ _ _ _ => rfl, fun _ _ _ _ _ => rfl, fun _ _ _ _ _ => rfl, fun _ _ _ _ => ⟨fun _ => ⟨rfl, rfl, rfl⟩, rfl⟩, Nat.le_refl _, fun _ _ _ h => Or.inl h⟩
theorem mvT_t (a : mvT σ τ) (b : mvT τ ρ) : mvT σ ρ := by
  obtain ⟨a1, a2, a3, a4, a5, a6⟩ := a
  obtain ⟨b1, b2, b3, b4, b5, b6⟩ := b
  refine ⟨fun k z x y w => (b1 k z x y w).trans (a1 k z x y w), fun k z x y w => (b2 k z x y w).trans (a2 k z x y w), fun k z x y w => (b3 k z x y w).trans (a3 k z x y w), fun k h1 h2 h3 => ?_, Nat.le_trans a5 b5, fun s k hs h => ?_⟩
  · obtain ⟨p1, p2⟩ := a4 k h1 h2 h3
    obtain ⟨q1, q2⟩ := b4 k h1 (Nat.lt_of_lt_of_le h2 a5) (fun s hs y => by
      rcases a6 s k hs y with e | e
      · exact h3 s hs e
      · omega)
    exact ⟨fun z => ⟨(q1 z).1.trans (p1 z).1, (q1 z).2.1.trans (p1 z).2.1, (q1 z).2.2.trans (p1 z).2.2⟩, q2.trans p2⟩
  · rcases b6 s k hs h with e | e
    · exact a6 s k hs e
    · exact Or.inr (Nat.le_trans a5 e)
theorem mv_R (m : mvC σ τ) : (∀ k z, gR τ k z = gR σ k z) ∧ (∀ k, kd τ k = kd σ k) ∧ nC τ = nC σ := by
  have e := m.2.2
  refine ⟨fun k z => ?_, fun k => ?_, ?_⟩
  · unfold gR
    rw [e]
  · unfold kd
    rw [e]
  · unfold nC
    rw [e]
theorem mvT_m (m : mvC σ τ) : mvT σ τ := by
  obtain ⟨r1, r2, r3⟩ := mv_R m
  refine ⟨fun k z _ y _ => m.1 k z y, fun k z _ y w => m.2.1 k z y w, fun k z _ _ _ => r1 k z, fun k h1 _ _ => ⟨fun z => ⟨m.1 k z (by omega), m.2.1 k z (by omega) (by omega), r1 k z⟩, r2 k⟩, by rw [r3]; exact Nat.le_refl _, fun s k _ h => Or.inl (by rw [← r1]; exact h)⟩
theorem mvT_u (D : cdD B0 T0 σ) (m : trmC σ τ s) (s8 : s < 8) : mvT σ τ := by
  obtain ⟨K, k1, k2, m1, m2, m3, m4, m5, m6, m7⟩ := m
  have K3 : 153 ≤ K := by
    rcases k2 with e | e
    · exact (D.1 s K s8 e).2.1
    · have := D.2.2
      omega
  refine ⟨fun k z x _ w => m1 k z (by omega) (by omega) (by omega) (by omega) (by omega), fun k z x _ _ => m2 k z (by omega), fun k z x y w => m3 k z (by omega) (fun e => y e.1) w, fun k h1 h2 h3 => ?_, m5, fun t k ht h => ?_⟩
  · have kK : ¬ k = K := fun e => by
      rcases k2 with q | q
      · exact h3 s s8 (by rw [e]; exact q)
      · omega
    exact ⟨fun z => ⟨m1 k z kK (by omega) (by omega) (by omega) (by omega), m2 k z kK, m3 k z kK (by omega) (by omega)⟩, m4 k kK⟩
  · by_cases e : t = s
    · rw [e] at h ⊢
      rw [k1] at h
      rw [← Option.some.inj h]
      rcases k2 with q | q
      · exact Or.inl q
      · exact Or.inr (by omega)
    · left
      rw [← m3 73 t (by omega) (fun z => e z.2) (by omega)]
      exact h
theorem cdD_m (m : mvC σ τ) (D : cdD B0 T0 σ) : cdD B0 T0 τ := by
  obtain ⟨r1, r2, r3⟩ := mv_R m
  refine ⟨fun s K hs h => ?_, fun s t K hs ht h1 h2 => ?_, by
    have cc : ccn τ = ccn σ := cnt_ext 8 fun s _ => by rw [r1]
    have ts : tS τ = tS σ := by
      unfold tS
      rw [m.2.2]
    rw [r3, cc, ts]
    exact D.2.2⟩
  · rw [r2, r3]
    rw [r1] at h
    exact D.1 s K hs h
  · rw [r1] at h1 h2
    exact D.2.1 s t K hs ht h1 h2
theorem codQ_g (e : ∀ z, gI τ K z = gI σ K z) (h : codQ σ K st P L) : codQ τ K st P L := fun j hj => by
  rw [e, e, e, e]
  exact h j hj
theorem trnX_m {pw : Nat → B64} {n : Nat} (m : mvC σ τ) (h : trnX σ s pw n K st) : trnX τ s pw n K st := by
  obtain ⟨r1, r2, r3⟩ := mv_R m
  obtain ⟨h1, h2, h3, h4, h5, h6⟩ := h
  refine ⟨(r1 _ _).trans h1, (r2 _).trans h2, h3, (m.1 _ _ (by omega)).trans h4, h5, fun x hx => ⟨(h6 x hx).1, codQ_g (fun z => m.1 K z (by omega)) (h6 x hx).2⟩⟩
theorem tuC_m (m : mvC σ τ) (h : tuC σ) : tuC τ := fun s hs h1 => by
  have l : (fun j => gL τ (7 + s) j) = (fun j => gL σ (7 + s) j) := funext fun j => m.2.1 _ _ (by omega) (by omega)
  rw [m.1 17 s (by omega)] at h1
  rw [l, m.1 15 s (by omega)]
  obtain ⟨K, st, q⟩ := h s hs h1
  exact ⟨K, st, trnX_m m q⟩
/-- all that holds of slots is kept by a turning -/
theorem tur_k (D : cdD B0 T0 σ) (m : trmC σ τ s) (s8 : s < 8) (U : tuC σ) (h : trnC τ s (fun j => gL σ (7 + s) j) (gI σ 15 s).toNat) : cdD B0 T0 τ ∧ tuC τ := by
  obtain ⟨K, k1, k2, m1, m2, m3, m4, m5, m6, m7⟩ := m
  have K3 : 153 ≤ K := by
    rcases k2 with e | e
    · exact (D.1 s K s8 e).2.1
    · have := D.2.2
      omega
  have kK : kd τ K = (3, 4800) := by
    obtain ⟨K', st, q1, q2, _⟩ := h
    rw [k1] at q1
    rw [Option.some.inj q1]
    exact q2
  have r73 : ∀ t, ¬ t = s → gR τ 73 t = gR σ 73 t := fun t e => m3 73 t (by omega) (fun z => e z.2) (by omega)
  have ne : ∀ t k, t < 8 → ¬ t = s → gR σ 73 t = some k → ¬ k = K := fun t k ht e h1 h2 => by
    rcases k2 with q | q
    · rw [h2] at h1
      exact e (D.2.1 t s K ht s8 h1 q)
    · have := (D.1 t k ht h1).2.2
      omega
  have acc : 153 ≤ nC τ ∧ ((nC τ : Int) = B0 + ccn τ ∧ (tS τ : Int) = T0 + 4800 * ccn τ) := by
    obtain ⟨d0, d1, d2⟩ := D.2.2
    by_cases q : gR σ 73 s = none
    · obtain ⟨a1, a2⟩ := m6.2.2 q
      have cc : ccn τ = ccn σ + 1 := cnt_upd (k := s) 8 s8 (fun t _ e => by rw [r73 t e]) (by show (gR τ 73 s).isSome = true; rw [k1]; rfl) (by show (gR σ 73 s).isSome = false; rw [q]; rfl)
      omega
    · obtain ⟨a1, a2⟩ := m6.2.1 q
      have cc : ccn τ = ccn σ := cnt_ext 8 fun t _ => by
        by_cases e : t = s
        · rw [e, k1]
          rcases k2 with h2 | h2
          · rw [h2]
          · exact absurd h2.1 q
        · rw [r73 t e]
      omega
  refine ⟨⟨fun t k ht h1 => ?_, fun t t' k ht ht' h1 h2 => ?_, acc⟩, fun t ht h1 => ?_⟩
  · by_cases e : t = s
    · rw [e, k1] at h1
      rw [← Option.some.inj h1]
      exact ⟨kK, K3, m7⟩
    · rw [r73 t e] at h1
      have q := D.1 t k ht h1
      rw [m4 k (ne t k ht e h1)]
      exact ⟨q.1, q.2.1, by omega⟩
  · by_cases e : t = s
    · by_cases e' : t' = s
      · omega
      · rw [e, k1] at h1
        rw [r73 t' e'] at h2
        exact absurd (Option.some.inj h1).symm (ne t' k ht' e' h2)
    · by_cases e' : t' = s
      · rw [e', k1] at h2
        rw [r73 t e] at h1
        exact absurd (Option.some.inj h2).symm (ne t k ht e h1)
      · rw [r73 t e] at h1
        rw [r73 t' e'] at h2
        exact D.2.1 t t' k ht ht' h1 h2
  · have l : ∀ t, t < 8 → (fun j => gL τ (7 + t) j) = (fun j => gL σ (7 + t) j) := fun t ht => funext fun j => m2 _ _ (by omega)
    rw [l t ht, m1 15 t (by omega) (by omega) (by omega) (by omega) (by omega)]
    by_cases e : t = s
    · rw [e]
      exact h
    · rw [m1 17 t (by omega) (by omega) (by omega) (by omega) (by omega)] at h1
      obtain ⟨k, st, q1, q2, q3, q4, q5, q6⟩ := U t ht h1
      have nk := ne t k ht e q1
      refine ⟨k, st, (r73 t e).trans q1, (m4 k nk).trans q2, q3, (m1 74 t (by omega) (by omega) (by omega) (by omega) (by omega)).trans q4, q5, fun x hx => ⟨(q6 x hx).1, codQ_g (fun z => m1 k z nk (by omega) (by omega) (by omega) (by omega)) (q6 x hx).2⟩⟩
theorem RelC_T (h : RelC σ φ c) (hI : invW (cW c)) (D : cdD B0 T0 σ) (m : trmC σ τ s) (s8 : s < 8) : RelC τ φ c := by
  obtain ⟨K, k1, k2, m1, m2, m3, m4, m5, m6, m7⟩ := m
  have K3 : 153 ≤ K := by
    rcases k2 with e | e
    · exact (D.1 s K s8 e).2.1
    · have := D.2.2
      omega
  have g : ∀ k z, k < 153 → ¬ (k = 72 ∨ k = 75 ∨ k = 74 ∨ k = 17) → gI τ k z = gI σ k z := fun k z y w => m1 k z (by omega) (by omega) (by omega) (by omega) (by omega)
  have l : ∀ k z, k < 153 → gL τ k z = gL σ k z := fun k z y => m2 k z (by omega)
  exact RelC_w (V := cW c) (p' := cP c) h (g _ _ (by omega) (by omega)) (fun k s z => l _ _ (by omega)) (fun s => g _ _ (by omega) (by omega)) (fun s _ _ => g _ _ (by omega) (by omega)) (fun _ _ z => z) (wldC_q h.2.2.2.2.2 hI.2.2.2.1.1.2 (fun k s z => g _ _ (by omega) (by omega)) (l _ _ (by omega)) (l _ _ (by omega)))
end CRN1
