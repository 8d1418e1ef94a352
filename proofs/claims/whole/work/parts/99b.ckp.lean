/-! ===== the class's kept states; the closing (closeBack) ===== -/
/-- the states that are kept, at cells cf 0 .. cf (N - 1) -/
def KC (σ : MS) (cf : Nat → Nat) (K : Nat → KT) (N : Nat) (D : Nat → Bool) : Prop := ∀ k, k < N → (isSt σ (cf k) ∧ stC (cf k)) ∧ CSt σ (cf k) (kS (K k)) ∧ (gI σ (cf k) 5 = kA (K k) ∧ gI σ (cf k) 7 = kF (K k) ∧ gI σ (cf k) 9 = kL (K k) ∧ gI σ (cf k) 10 = (if D k = true then 1 else 0)) ∧ gR σ (cf k) 6 = (if 0 ≤ kB (K k) then some (cf (kB (K k)).toNat) else none)
def KD (cf : Nat → Nat) (N : Nat) : Prop := ∀ k k', k < N → k' < N → ¬ k = k' → cf k + 3 < cf k' ∨ cf k' + 3 < cf k
/-- what a closing may change -/
def kcq (τ σ : MS) (cf : Nat → Nat) (N : Nat) : Prop := (∀ q s, (¬ (s = 9 ∨ s = 10) ∨ ∀ k, k < N → ¬ q = cf k) → gI τ q s = gI σ q s) ∧ τ.2 = σ.2
section CKP
variable {τ σ ρ : MS} {cf : Nat → Nat} {K : Nat → KT} {N k j : Nat} {D : Nat → Bool} {S : ST} {x n C : Int}
theorem kcq_r (σ : MS) : kcq σ σ cf N := ⟨fun _ _ _ => rfl, rfl⟩
theorem kcq_t {a b c : MS} (h1 : kcq a b cf N) (h2 : kcq b c cf N) : kcq a c cf N := ⟨fun q s p => (h1.1 q s p).trans (h2.1 q s p), h1.2.trans h2.2⟩
theorem kcq_i {s : Nat} (hj : j < N) (hs : s = 9 ∨ s = 10) : kcq (sI σ (cf j) s x) σ cf N := ⟨fun q s' p => by
  rw [gI_sI, if_neg]
  rintro ⟨e1, e2⟩
  rcases p with p | p
  · exact p (by omega)
  · exact p j hj e1, rfl⟩
theorem CSt_9 {c c' s : Nat} (hs : s = 9 ∨ s = 10) (h1 : ¬ c' = c + 1 + 1) (h2 : ¬ c' = c + 1 + 2) (h : CSt σ c S) : CSt (sI σ c' s x) c S := by
  obtain ⟨⟨f3, f4⟩, v1, v2, v3, v4, v5⟩ := h
  refine ⟨⟨?_, ?_⟩, v1, v2, v3, fun f g1 g2 => ?_, fun j hj => ?_⟩
  · rw [gI_sI, if_neg (by omega)]; exact f3
  · rw [gI_sI, if_neg (by omega)]; exact f4
  · rw [gI_sI, if_neg (by omega)]; exact v4 f g1 g2
  · rw [gI_sI, if_neg (by omega)]; exact v5 j hj
theorem KC_d (hd : KD cf N) (h : KC σ cf K N D) (hj : j < N) : KC (sI σ (cf j) 10 1) cf K N (fun i => if i = j then true else D i) := fun k hk => by
  obtain ⟨a1, a2, ⟨a5, a7, a9, a10⟩, a6⟩ := h k hk
  by_cases e : k = j
  · subst e
    refine ⟨a1, CSt_9 (Or.inr rfl) (by omega) (by omega) a2, ⟨?_, ?_, ?_, ?_⟩, a6⟩
    · rw [gI_sI, if_neg (by omega)]; exact a5
    · rw [gI_sI, if_neg (by omega)]; exact a7
    · rw [gI_sI, if_neg (by omega)]; exact a9
    · rw [gI_sI, if_pos ⟨rfl, rfl⟩]
      show 1 = if (if k = k then true else D k) = true then (1 : Int) else 0
      rw [if_pos rfl, if_pos rfl]
  · have d := hd k j hk hj e
    refine ⟨a1, CSt_9 (Or.inr rfl) (by omega) (by omega) a2, ⟨?_, ?_, ?_, ?_⟩, a6⟩
    · rw [gI_sI, if_neg (by omega)]; exact a5
    · rw [gI_sI, if_neg (by omega)]; exact a7
    · rw [gI_sI, if_neg (by omega)]; exact a9
    · rw [gI_sI, if_neg (by omega)]
      show _ = if (if k = j then true else D k) = true then (1 : Int) else 0
      rw [if_neg e]
      exact a10
theorem KC_l (hd : KD cf N) (h : KC σ cf K N D) (hj : j < N) : KC (sI σ (cf j) 9 (if kL (K j) < n then n else kL (K j))) cf (ovrK K j n) N D := fun k hk => by
  obtain ⟨a1, a2, ⟨a5, a7, a9, a10⟩, a6⟩ := h k hk
  rw [ovc_B]
  by_cases e : k = j
  · subst e
    have o : ovrK K k n k = (kS (K k), kA (K k), kB (K k), kF (K k), kW (K k) - 1, if kL (K k) < n then n else kL (K k)) := if_pos rfl
    rw [o]
    refine ⟨a1, CSt_9 (Or.inl rfl) (by omega) (by omega) a2, ⟨?_, ?_, ?_, ?_⟩, a6⟩
    · rw [gI_sI, if_neg (by omega)]; exact a5
    · rw [gI_sI, if_neg (by omega)]; exact a7
    · rw [gI_sI, if_pos ⟨rfl, rfl⟩]
    · rw [gI_sI, if_neg (by omega)]; exact a10
  · have d := hd k j hk hj e
    have o : ovrK K j n k = K k := if_neg e
    rw [o]
    refine ⟨a1, CSt_9 (Or.inl rfl) (by omega) (by omega) a2, ⟨?_, ?_, ?_, ?_⟩, a6⟩
    · rw [gI_sI, if_neg (by omega)]; exact a5
    · rw [gI_sI, if_neg (by omega)]; exact a7
    · rw [gI_sI, if_neg (by omega)]; exact a9
    · rw [gI_sI, if_neg (by omega)]; exact a10
theorem T570 {a b : Int} : MM 570 [mI a, mI b] σ = some (some (mI (if a < b then b else a)), σ) := by
  rw [M570, e570_0]
  by_cases h : a < b
  · rw [if_pos h, if_pos h]
  · rw [if_neg h, if_neg h]
set_option maxHeartbeats 1000000 in
theorem L40 (hd : KD cf N) {u : Option Nat} (hu : ∀ R, u = some R → R < N) : ∀ (f k i : Nat) (K : Nat → KT) (D : Nat → Bool) (σ : MS) (C : Int), KC σ cf K N D → KB K N C → k < N → k < f → i + f ≤ 250 → 0 ≤ C → C + 4000 * (f : Int) ≤ 2000000 →
    okc (RR (lkB tb40) (B40_10, [some (mR (some 39)), some (mR (u.map cf)), some (mR (some (cf k))), some (mI (i : Int))], [], σ)) none (fun τ => KC τ cf (clc f K k u) N (dnc f K k u D) ∧ kcq τ σ cf N) := by
  intro f
  induction f with
  | zero => intro k i K D σ C _ _ _ h; omega
  | succ f ih =>
    intro k i K D σ C hK hB hk hf hi hC hC2
    obtain ⟨⟨a1, ac⟩, a2, ⟨a5, a7, a9, a10⟩, a6⟩ := hK k hk
    obtain ⟨b1, b2, b3, b4⟩ := hB k hk
    have n250 : ¬ 250 ≤ (i : Int) := by omega
    have ak1 : ak σ 2 (some (cf k)) := fun _ => by show (kd σ (cf k)).1 = 28; rw [a1.1]
    have ak2 : ak σ 2 (u.map cf) := fun z => by
      cases u with
      | none => cases z
      | some R =>
        show (kd σ (cf R)).1 = 28
        rw [(hK R (hu R rfl)).1.1.1]
    have aks : (ak σ 2 (some (cf k)) ∧ ak σ 2 (u.map cf)) = True := eq_true ⟨ak1, ak2⟩
    have eu : (some (cf k) = u.map cf) = (u = some k) := by
      apply propext
      cases u with
      | none => exact ⟨fun z => (by cases z), fun z => (by cases z)⟩
      | some R =>
        constructor
        · intro z
          have z : cf k = cf R := Option.some.inj z
          by_cases e : R = k
          · rw [e]
          · have := hd R k (hu R rfl) hk e
            omega
        · intro z
          rw [Option.some.inj z]
          rfl
    show okc _ none (fun τ => KC τ cf (if u = some k then K else if 0 ≤ kB (K k) then clc f (ovrK K (kB (K k)).toNat (kF (K k) + kL (K k))) (kB (K k)).toNat u else K) N (if u = some k then D else if 0 ≤ kB (K k) then dnc f K (kB (K k)).toNat u (fun j => if j = k then true else D j) else (fun j => if j = k then true else D j)) ∧ kcq τ σ cf N)
    by_cases uk : u = some k
    · rw [if_pos uk, if_pos uk]
      refine okc_o (τ := σ) ?_ ⟨hK, kcq_r σ⟩
      have ee : (some (cf k) = u.map cf) = True := by rw [eu]; exact eq_true uk
      rw [e40_10, if_neg n250, if_neg (by show ¬ true = false; decide), if_pos ⟨ak1, ak2⟩, if_pos (of_eq_true ee)]
    · rw [if_neg uk, if_neg uk]
      have ne : ¬ some (cf k) = u.map cf := by rw [eu]; exact uk
      have ao8 : ao σ 8 (some (cf k)) := of_eq_true (aoS a1)
      have bl1 : ao σ 8 (some (cf k)) ∧ bl 1 := ⟨ao8, Or.inr rfl⟩
      have K1 := KC_d hd hK hk
      have q1 : kcq (sI σ (cf k) 10 1) σ cf N := kcq_i hk (Or.inr rfl)
      have lf : 0 ≤ kB (K k) → (kB (K k)).toNat < N ∧ (kB (K k)).toNat < f := fun z => by omega
      have li : i + 1 + f ≤ 250 := by omega
      have lC : 0 ≤ C + 4000 := by omega
      have lC2 : C + 4000 + 4000 * (f : Int) ≤ 2000000 := by omega
      have ln : 0 ≤ kF (K k) + kL (K k) ∧ kF (K k) + kL (K k) ≤ C + 4000 := by omega
      have l1 : i < 100000 := by omega
      have ww : w32 (kF (K k) + kL (K k)) = kF (K k) + kL (K k) := w32_i (by omega) (by omega)
      have i1 : w32 ((i : Int) + 1) = ((i + 1 : Nat) : Int) := w32_s l1
      have g6 : gR (sI σ (cf k) 10 1) (cf k) 6 = (if 0 ≤ kB (K k) then some (cf (kB (K k)).toNat) else none) := a6
      rw [e40_10, if_neg n250, if_neg (by show ¬ true = false; decide), if_pos ⟨ak1, ak2⟩, if_neg ne, if_pos bl1, if_pos ao8]
      simp only [Option.getD_some]
      rw [g6]
      by_cases z : 0 ≤ kB (K k)
      · rw [if_pos z, if_pos z, if_pos z]
        have lb := (lf z).1
        obtain ⟨c1, c2, ⟨c5, c7, c9, c10⟩, c6⟩ := K1 (kB (K k)).toNat lb
        obtain ⟨d1, d2, ⟨d5, d7, d9, d10⟩, d6⟩ := K1 k hk
        have aob : ao σ 8 (some (cf (kB (K k)).toNat)) := of_eq_true (aoS (hK _ lb).1.1)
        have ao8' : ao (sI σ (cf k) 10 1) 8 (some (cf k)) := ao8
        have aob' : ao (sI σ (cf k) 10 1) 8 (some (cf (kB (K k)).toNat)) := aob
        rw [if_neg (by show ¬ true = false; decide)]
        simp only [eq_true ao8, eq_true aob, ao_I, if_true, Option.getD_some, c9, d7, d9, ww, T570, Option.bind_some, Option.toList_some, List.cons_append, List.nil_append]
        have K2 := KC_l (n := kF (K k) + kL (K k)) hd K1 lb
        have q2 : kcq (sI (sI σ (cf k) 10 1) (cf (kB (K k)).toNat) 9 (if kL (K (kB (K k)).toNat) < kF (K k) + kL (K k) then kF (K k) + kL (K k) else kL (K (kB (K k)).toNat))) σ cf N := kcq_t (kcq_i lb (Or.inl rfl)) q1
        generalize hσ2 : sI (sI σ (cf k) 10 1) (cf (kB (K k)).toNat) 9 (if kL (K (kB (K k)).toNat) < kF (K k) + kL (K k) then kF (K k) + kL (K k) else kL (K (kB (K k)).toNat)) = σ2 at K2 q2
        have g62 : gR σ2 (cf k) 6 = some (cf (kB (K k)).toNat) := by
          rw [← hσ2]
          exact a6.trans (if_pos z)
        have ao2 : ao σ2 8 (some (cf k)) := by rw [← hσ2]; exact ao8
        obtain ⟨τ, t, p1, p2⟩ := ih (kB (K k)).toNat (i + 1) (ovrK K (kB (K k)).toNat (kF (K k) + kL (K k))) (fun j => if j = k then true else D j) σ2 (C + 4000) K2 (ov_B hB lb ln hC) lb (lf z).2 li lC lC2
        refine okc_o (τ := τ) ?_ ⟨?_, kcq_t p2 q2⟩
        · rw [e40_61, if_pos aob', Option.getD_some, hσ2, e40_64, if_pos ao2, Option.getD_some, g62, i1]
          exact t
        · rw [← dnc_e (K' := ovrK K (kB (K k)).toNat (kF (K k) + kL (K k))) (fun j => ovc_B)]
          exact p1
      · rw [if_neg z, if_neg z, if_neg z]
        refine okc_o (τ := sI σ (cf k) 10 1) ?_ ⟨K1, q1⟩
        have ao8' : ao (sI σ (cf k) 10 1) 8 (some (cf k)) := ao8
        rw [if_pos (show Option.isSome (none : Option Nat) = false from rfl), e40_64, if_pos ao8', Option.getD_some, g6, if_neg z, i1, e40_10]
        by_cases l : 250 ≤ ((i + 1 : Nat) : Int)
        · rw [if_pos l]
        · rw [if_neg l, if_pos (show Option.isSome (none : Option Nat) = false from rfl)]
/-- closeBack -/
theorem T40 {hc : Nat} {u : Option Nat} (hd : KD cf N) (hN : N ≤ 250) (hu : ∀ R, u = some R → R < N) (hK : KC σ cf K N D) (hB : KB K N C) (hk : k < N) (hC : 0 ≤ C ∧ C ≤ 100000) (h14 : gR σ 39 14 = some hc) (ha : isSt σ hc) (h6 : gR σ hc 6 = some (cf k)) :
    okc (MM 40 [mR (some 39), mR (u.map cf)] σ) none (fun τ => KC τ cf (clc 250 K k u) N (dnc 250 K k u D) ∧ kcq τ σ cf N) := by
  obtain ⟨τ, t, p⟩ := L40 hd hu 250 k 0 K D σ C hK hB hk (by omega) (by omega) hC.1 (by omega)
  refine okc_o (τ := τ) ?_ p
  have ao8 : ao σ 8 (some hc) := of_eq_true (aoS ha)
  rw [M40, e40_0, h14, if_pos ao8, Option.getD_some, h6]
  exact t
end CKP
