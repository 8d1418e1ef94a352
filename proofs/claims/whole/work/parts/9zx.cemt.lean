/-! ===== the class's plain code: where it leads to ===== -/
def fxO (o : Int) : Int := if 131072 ≤ o then o - 131072 else o
def fxA (st : Nat → Int) (o a : Int) : Int := if 131072 ≤ o then st a.toNat else a
section CEMT
variable {σ τ ρ υ ω : MS} {w w2 : B64} {m n f i j s t N K P Q : Nat} {a b c o x y tt x5 : Int} {L L1 L2 : List Q4} {p : Nat → B64} {q : Q4} {S S0 : Nat → Bool}
theorem iAnd17 (h0 : 0 ≤ o) (h1 : o < 262144) : iAnd o 131072 = if o < 131072 then 0 else 131072 := by
  obtain ⟨n, hn⟩ : ∃ n : Nat, o = (n : Int) := ⟨o.toNat, by omega⟩
  have e1 : (b32 o).toNat = n := by
    rw [b32_nat]
    omega
  have e2 : (b32 131072).toNat = 131072 := rfl
  have e3 : n &&& 131072 = (n.testBit 17).toNat * 131072 := by
    refine Nat.eq_of_testBit_eq fun i => ?_
    rw [Nat.testBit_and, show (131072 : Nat) = 2 ^ 17 from rfl, Nat.testBit_two_pow]
    by_cases c : 17 = i
    · rw [← c, decide_eq_true rfl, Bool.and_true]
      cases n.testBit 17
      · rfl
      · rfl
    · rw [decide_eq_false c, Bool.and_false]
      cases n.testBit 17
      · exact (Nat.zero_testBit i).symm
      · show false = (1 * 2 ^ 17).testBit i
        rw [Nat.one_mul, Nat.testBit_two_pow, decide_eq_false c]
  by_cases c : o < 131072
  · have t : n.testBit 17 = false := Nat.testBit_lt_two_pow (by show n < 131072; omega)
    rw [t] at e3
    rw [if_pos c]
    exact iAnd_nat (n := 0) (by rw [e1, e2, e3]; rfl) (by decide)
  · have t : n.testBit 17 = true := by
      rw [Nat.testBit_eq_decide_div_mod_eq]
      refine decide_eq_true ?_
      show n / 131072 % 2 = 1
      omega
    rw [t] at e3
    rw [if_neg c]
    exact iAnd_nat (n := 131072) (by rw [e1, e2, e3]; rfl) (by decide)
/-- one operation is led to where its word stands -/
def fx1 (τ υ : MS) (K j : Nat) : Prop := gI υ K (4 * j) = fxO (gI τ K (4 * j)) ∧ gI υ K (4 * j + 1) = fxA (fun i => gI τ 75 i) (gI τ K (4 * j)) (gI τ K (4 * j + 1)) ∧ gI υ K (4 * j + 2) = gI τ K (4 * j + 2) ∧ gI υ K (4 * j + 3) = gI τ K (4 * j + 3)
theorem fx_s (h1 : υ.2 = ω.2) (h2 : ∀ k z, ¬ k = K → gI υ k z = gI ω k z) (h3 : ∀ z, z < 4 * (m + 1) → gI υ K z = gI ω K z) (h4 : ∀ j, m + 1 ≤ j → j < N → fx1 ω υ K j) (nK : ¬ 75 = K) (e : ω.2 = τ.2) (g1 : ∀ k z, ¬ k = K → gI ω k z = gI τ k z) (g2 : ∀ z, ¬ z = 4 * m → ¬ z = 4 * m + 1 → gI ω K z = gI τ K z) (g3 : gI ω K (4 * m) = fxO (gI τ K (4 * m))) (g4 : gI ω K (4 * m + 1) = fxA (fun i => gI τ 75 i) (gI τ K (4 * m)) (gI τ K (4 * m + 1))) : υ.2 = τ.2 ∧ (∀ k z, ¬ k = K → gI υ k z = gI τ k z) ∧ (∀ z, z < 4 * m → gI υ K z = gI τ K z) ∧ ∀ j, m ≤ j → j < N → fx1 τ υ K j := by
  refine ⟨h1.trans e, fun k z y => (h2 k z y).trans (g1 k z y), fun z hz => (h3 z (by omega)).trans (g2 z (by omega) (by omega)), fun j l1 l2 => ?_⟩
  by_cases c : j = m
  · rw [c]
    exact ⟨(h3 _ (by omega)).trans g3, (h3 _ (by omega)).trans g4, (h3 _ (by omega)).trans (g2 _ (by omega) (by omega)), (h3 _ (by omega)).trans (g2 _ (by omega) (by omega))⟩
  · have := h4 j (by omega) l2
    unfold fx1 at this ⊢
    rw [g2 (4 * j) (by omega) (by omega), g2 (4 * j + 1) (by omega) (by omega), g2 (4 * j + 2) (by omega) (by omega), g2 (4 * j + 3) (by omega) (by omega), show (fun i => gI ω 75 i) = (fun i => gI τ 75 i) from funext fun i => g1 75 i nK] at this
    exact this
theorem w4m (h : m < 1200) : w32 ((m : Int) * 4) = ((4 * m : Nat) : Int) ∧ w32 (((4 * m : Nat) : Int) + 1) = ((4 * m + 1 : Nat) : Int) ∧ w32 ((m : Int) + 1) = ((m + 1 : Nat) : Int) ∧ (0 ≤ ((4 * m : Nat) : Int) ∧ ((4 * m : Nat) : Int) < ((4800 : Nat) : Int)) ∧ (0 ≤ ((4 * m + 1 : Nat) : Int) ∧ ((4 * m + 1 : Nat) : Int) < ((4800 : Nat) : Int)) := by
  refine ⟨?_, ?_, ?_, ?_, ?_⟩
  · rw [w32_i (by omega) (by omega)]
    omega
  · rw [w32_i (by omega) (by omega)]
    rfl
  · rw [w32_i (by omega) (by omega)]
    rfl
  · omega
  · omega
theorem L180 (s8 : s < 8) (N2 : N ≤ 1200) : ∀ (d m : Nat) (τ : MS), m + d = N → emD τ K N → (∀ j, m ≤ j → j < N → okop (gI τ K (4 * j)) (gI τ K (4 * j + 1))) →
    ∃ υ, RR (lkB tb111) (B111_180, [some (mR (some 72)), some (mR (some 5)), some (mI (s : Int)), some (mR (some (7 + s))), some (mI (n : Int)), some (mI x5), some (mI (m : Int)), none], [], τ) = some (none, sI (sI υ 74 s (N : Int)) 17 s 1) ∧ υ.2 = τ.2 ∧ (∀ k z, ¬ k = K → gI υ k z = gI τ k z) ∧ (∀ z, z < 4 * m → gI υ K z = gI τ K z) ∧ ∀ j, m ≤ j → j < N → fx1 τ υ K j := by
  intro d
  induction d with
  | zero =>
    intro m τ hm hD ho
    have c : (N : Int) ≤ (m : Int) := by omega
    have b8 : 0 ≤ (s : Int) ∧ (s : Int) < 8 := by omega
    refine ⟨τ, ?_, rfl, fun _ _ _ => rfl, fun _ _ => rfl, fun j h1 h2 => absurd h2 (by omega)⟩
    rw [e111_180, hD.2.2.2, if_pos c, if_pos (g_74 (σ := τ) (i := (s : Int)) ▸ b8), if_pos (g_17 (σ := τ) (i := (s : Int)) ▸ b8), Int.toNat_natCast]
    rfl
  | succ d ih =>
    intro m τ hm hD ho
    have c : ¬ (N : Int) ≤ (m : Int) := by omega
    have m2 : m < 1200 := by omega
    have mN : m < N := by omega
    have md : m + 1 + d = N := by omega
    obtain ⟨w0, w1, w3, b0, b1⟩ := w4m m2
    have om := ho m (Nat.le_refl m) mN
    have K3 : 153 ≤ K := hD.2.2.1
    have nK : ¬ 75 = K := by omega
    have nL : ¬ 72 = K := by omega
    have r3 : ∀ ρ : MS, ρ.2 = τ.2 → gR ρ 72 3 = some K := fun ρ e => by
      have := hD.1
      unfold gR at this ⊢
      rw [e]
      exact this
    have kK : ∀ ρ : MS, ρ.2 = τ.2 → kd ρ K = (3, 4800) := fun ρ e => by
      have := hD.2.1
      unfold kd at this ⊢
      rw [e]
      exact this
    have q0 : ∀ (ρ : MS) (i : Int), ρ.2 = τ.2 → (Option.isSome (some K) = true ∧ ab ρ 3 K i) = (0 ≤ i ∧ i < ((4800 : Nat) : Int)) := fun ρ i e => gdK (kK ρ e)
    obtain ⟨o, hO⟩ : ∃ o, o = gI τ K (4 * m) := ⟨_, rfl⟩
    obtain ⟨a, hA⟩ : ∃ a, a = gI τ K (4 * m + 1) := ⟨_, rfl⟩
    rw [← hO, ← hA] at om
    have o0 : 0 ≤ o ∧ o < 262144 := by
      unfold okop at om
      omega
    by_cases l : o < 131072
    · have no : ¬ 131072 ≤ o := by omega
      obtain ⟨υ, t, h1, h2, h3, h4⟩ := ih (m + 1) τ md hD (fun j y1 y2 => ho j (Nat.le_of_succ_le y1) y2)
      have R := fx_s h1 h2 h3 h4 nK rfl (fun _ _ _ => rfl) (fun _ _ _ => rfl) (by rw [← hO]; exact (if_neg no).symm) (by rw [← hO]; exact (if_neg no).symm)
      refine ⟨υ, ?_, R⟩
      rw [e111_180, hD.2.2.2, if_neg c, r3 τ rfl, Option.getD_some, w0, if_pos (q0 τ _ rfl ▸ b0), Int.toNat_natCast, ← hO, iAnd17 o0.1 o0.2, if_pos l, if_pos rfl, e111_243, w3]
      exact RR_q t (by repeat (first | exact lq_nil | refine lq_cons (Or.inr rfl) ?_ | refine lq_cons (Or.inl rfl) ?_))
    · have yo : 131072 ≤ o := by omega
      have a0 : 0 ≤ a ∧ a < 200 := by
        unfold okop at om
        omega
      have wo : w32 (o - 131072) = o - 131072 := w32_i (by omega) (by omega)
      obtain ⟨τ1, hτ1⟩ : ∃ τ1, τ1 = sI τ K (4 * m) (o - 131072) := ⟨_, rfl⟩
      have x1 : τ1.2 = τ.2 := by rw [hτ1]; rfl
      have ga : gI τ1 K (4 * m + 1) = a := by
        rw [hτ1, gI_sI, if_neg (fun z => absurd z.2 (by omega))]
        exact hA.symm
      have gs : ∀ z, gI τ1 75 z = gI τ 75 z := fun z => by rw [hτ1, gI_sI, if_neg (fun z => nK z.1)]
      obtain ⟨ω, hω⟩ : ∃ ω, ω = sI τ1 K (4 * m + 1) (gI τ 75 a.toNat) := ⟨_, rfl⟩
      have x2 : ω.2 = τ.2 := by rw [hω]; exact x1
      have gw : ∀ k z, gI ω k z = if k = K ∧ z = 4 * m + 1 then gI τ 75 a.toNat else if k = K ∧ z = 4 * m then o - 131072 else gI τ k z := fun k z => by rw [hω, hτ1, gI_sI, gI_sI]
      have gk : ∀ k z, ¬ k = K → gI ω k z = gI τ k z := fun k z y => by rw [gw, if_neg (fun z => y z.1), if_neg (fun z => y z.1)]
      have gz : ∀ z, ¬ z = 4 * m → ¬ z = 4 * m + 1 → gI ω K z = gI τ K z := fun z y1 y2 => by rw [gw, if_neg (fun z => y2 z.2), if_neg (fun z => y1 z.2)]
      have D1 : emD ω K N := ⟨r3 ω x2, kK ω x2, K3, (gk 72 4 nL).trans hD.2.2.2⟩
      obtain ⟨υ, t, h1, h2, h3, h4⟩ := ih (m + 1) ω md D1 (fun j y1 y2 => by
        rw [gz (4 * j) (by omega) (by omega), gz (4 * j + 1) (by omega) (by omega)]
        exact ho j (Nat.le_of_succ_le y1) y2)
      have R := fx_s (τ := τ) h1 h2 h3 h4 nK x2 gk gz (by
        rw [← hO, gw, if_neg (fun z => absurd z.2 (by omega)), if_pos ⟨rfl, rfl⟩]
        exact (if_pos yo).symm) (by
        rw [← hO, ← hA, gw, if_pos ⟨rfl, rfl⟩]
        exact (if_pos yo).symm)
      refine ⟨υ, ?_, R⟩
      have n0 : ¬ (131072 : Int) = 0 := by decide
      have p75 : Option.isSome (some 75) = true ∧ ab τ 3 75 a := g_75 (σ := τ) (i := a) ▸ a0
      rw [e111_180, hD.2.2.2, if_neg c, r3 τ rfl, Option.getD_some, w0, if_pos (q0 τ _ rfl ▸ b0), Int.toNat_natCast, ← hO, iAnd17 o0.1 o0.2, if_neg l, if_neg n0, if_pos (q0 τ _ rfl ▸ b0), if_pos (q0 τ _ rfl ▸ b0), wo, ← hτ1, r3 τ1 x1, Option.getD_some, w1, if_pos (q0 τ _ rfl ▸ b1), Int.toNat_natCast, ga, if_pos p75, if_pos (q0 τ _ rfl ▸ b1), gs, ← hω, e111_243, w3]
      exact RR_q t (by repeat (first | exact lq_nil | refine lq_cons (Or.inr rfl) ?_ | refine lq_cons (Or.inl rfl) ?_))
end CEMT
