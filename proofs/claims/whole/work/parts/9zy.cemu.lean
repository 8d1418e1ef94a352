/-! ===== the class's plain code: a slot is turned ===== -/
/-- operations L stand from place P on, led to where words stand -/
def codQ (σ : MS) (K : Nat) (st : Nat → Int) (P : Nat) (L : List Q4) : Prop := ∀ j, j < L.length → gI σ K (4 * (P + j)) = fxO ((L.getD j q40).1 + (if j = 0 then 65536 else 0)) ∧ gI σ K (4 * (P + j) + 1) = fxA st ((L.getD j q40).1 + (if j = 0 then 65536 else 0)) (L.getD j q40).2.1 ∧ gI σ K (4 * (P + j) + 2) = (L.getD j q40).2.2.1 ∧ gI σ K (4 * (P + j) + 3) = (L.getD j q40).2.2.2
/-- the slot's plain code is that of its words -/
def trnC (σ : MS) (s : Nat) (p : Nat → B64) (n : Nat) : Prop := ∃ (K : Nat) (st : Nat → Int), gR σ 73 s = some K ∧ kd σ K = (3, 4800) ∧ 153 ≤ K ∧ gI σ 74 s = ((layN p n (n + 1) 0 0 : Nat) : Int) ∧ layN p n (n + 1) 0 0 ≤ 6 * n ∧ ∀ x ∈ layP p n (n + 1) 0 0, st x.1 = (x.2 : Int) ∧ codQ σ K st x.2 (wQ p n x.1 x.2)
/-- cells and places that are counted -/
def accQ (σ τ : MS) (s : Nat) : Prop := (¬ gR σ 73 s = none → nC τ = nC σ ∧ tS τ = tS σ) ∧ (gR σ 73 s = none → nC τ = nC σ + 1 ∧ tS τ = tS σ + 4800)
/-- what turning moves -/
def trmC (σ τ : MS) (s : Nat) : Prop := ∃ K, gR τ 73 s = some K ∧ (gR σ 73 s = some K ∨ gR σ 73 s = none ∧ K = nC σ) ∧ (∀ k m, ¬ k = K → ¬ (k = 72 ∧ (m = 4 ∨ m = 5)) → ¬ k = 75 → ¬ (k = 74 ∧ m = s) → ¬ (k = 17 ∧ m = s) → gI τ k m = gI σ k m) ∧ (∀ k m, ¬ k = K → gL τ k m = gL σ k m) ∧ (∀ k m, ¬ k = K → ¬ (k = 73 ∧ m = s) → ¬ (k = 72 ∧ m = 3) → gR τ k m = gR σ k m) ∧ (∀ k, ¬ k = K → kd τ k = kd σ k) ∧ nC σ ≤ nC τ ∧ (nC τ ≤ nC σ + 1 ∧ accQ σ τ s) ∧ K < nC τ
section CEMU
variable {σ τ ρ υ ω : MS} {w w2 : B64} {m n f i j s t N K P Q : Nat} {a b c o x y tt x5 : Int} {L L1 L2 : List Q4} {p : Nat → B64} {q : Q4} {S S0 : Nat → Bool}
theorem L111b (s8 : s < 8) (n2 : n ≤ 200) (hf : frmP p n (n + 1) 0 (fun _ => false) = (none, S)) (r73 : gR σ 73 s = some K) (kK : kd σ K = (3, 4800)) (K3 : 153 ≤ K) (Kn : K < nC σ) (r6 : gR σ 6 s = some (7 + s)) (g15 : gI σ 15 s = (n : Int)) (hp : ∀ j, gL σ (7 + s) j = p j) :
    ∃ τ, RR (lkB tb111) (B111_30, [some (mR (some 72)), some (mR (some 5)), some (mI (s : Int)), none, none, none, none, none], [], σ) = some (none, τ) ∧ trnC τ s p n ∧ gI τ 17 s = 1 ∧ trmC σ τ s ∧ nC τ = nC σ ∧ tS τ = tS σ := by
  have b8 : 0 ≤ (s : Int) ∧ (s : Int) < 8 := by omega
  have n0 : 0 ≤ n := Nat.zero_le n
  obtain ⟨σ1, hσ1⟩ : ∃ σ1, σ1 = sI (sR σ 72 3 (some K)) 72 4 0 := ⟨_, rfl⟩
  have k1 : ∀ k, kd σ1 k = kd σ k := fun k => by rw [hσ1]; rfl
  have l1 : ∀ k j, gL σ1 k j = gL σ k j := fun k j => by rw [hσ1]; rfl
  have r1 : ∀ k j, gR σ1 k j = if k = 72 ∧ j = 3 then some K else gR σ k j := fun k j => by rw [hσ1, gR_sI, gR_sR]
  have g1 : ∀ k j, gI σ1 k j = if k = 72 ∧ j = 4 then 0 else gI σ k j := fun k j => by rw [hσ1, gI_sI, gI_sR]
  have D1 : emD σ1 K 0 := ⟨by rw [r1, if_pos ⟨rfl, rfl⟩], (k1 K).trans kK, K3, by rw [g1, if_pos ⟨rfl, rfl⟩]; rfl⟩
  have f1 : n ≤ 0 + (n + 1) := by omega
  obtain ⟨i', t', υ, c1, c2⟩ := L111 (K := K) s8 n2 K3 (n + 1) 0 0 0 (fun _ => false) σ1 hf f1 n0 (Nat.le_refl 0) (Nat.le_refl 0) D1 (fun j => (l1 _ _).trans (hp j))
  have hl := (lay_r (n + 1) 0 0 (fun _ => false) hf n0 f1)
  obtain ⟨N, hN⟩ : ∃ N, N = layN p n (n + 1) 0 0 := ⟨_, rfl⟩
  obtain ⟨v1, v2, v3, v4, v5, v6, v7⟩ := c2
  rw [← hN] at v2 v7 hl
  have N6 : N ≤ 6 * n := by
    have := hl.2.1
    omega
  have N2 : N ≤ 1200 := by omega
  have D2 : emD υ K N := by
    refine ⟨?_, ?_, K3, v2⟩
    · have : gR υ 72 3 = gR σ1 72 3 := by
        unfold gR
        rw [v1]
      exact this.trans D1.1
    · have : kd υ K = kd σ1 K := by
        unfold kd
        rw [v1]
      exact this.trans D1.2.1
  obtain ⟨ω, t, w1, w2, w3, w4⟩ := L180 (K := K) (s := s) (n := n) (x5 := i') s8 N2 N 0 υ (Nat.zero_add N) D2 (fun j _ h => v7 j (Nat.zero_le j) h)
  have hω2 : ω.2 = σ1.2 := w1.trans v1
  have kω : ∀ k, kd ω k = kd σ k := fun k => by
    have : kd ω k = kd σ1 k := by
      unfold kd
      rw [hω2]
    exact this.trans (k1 k)
  have rω : ∀ k j, gR ω k j = gR σ1 k j := fun k j => by
    unfold gR
    rw [hω2]
  have lω : ∀ k j, gL ω k j = gL σ1 k j := fun k j => by
    unfold gL
    rw [hω2]
  have nω : nC ω = nC σ := by
    have : nC ω = nC σ1 := by
      unfold nC
      rw [hω2]
    rw [this, hσ1, nC_I, nC_R]
  have tω : tS ω = tS σ := by
    have : tS ω = tS σ1 := by
      unfold tS
      rw [hω2]
    rw [this, hσ1]
    rfl
  obtain ⟨τ, hτ⟩ : ∃ τ, τ = sI (sI ω 74 s (N : Int)) 17 s 1 := ⟨_, rfl⟩
  have tτ : tS τ = tS σ := by
    rw [hτ]
    exact tω
  have gτ : ∀ k j, gI τ k j = if k = 17 ∧ j = s then 1 else if k = 74 ∧ j = s then (N : Int) else gI ω k j := fun k j => by rw [hτ, gI_sI, gI_sI]
  have rτ : ∀ k j, gR τ k j = gR ω k j := fun k j => by rw [hτ]; rfl
  have kτ : ∀ k, kd τ k = kd ω k := fun k => by rw [hτ]; rfl
  have gK : ∀ j, gI τ K j = gI ω K j := fun j => by rw [gτ, if_neg (fun z => by omega), if_neg (fun z => by omega)]
  have rK : gR τ 73 s = some K := by
    rw [rτ, rω, r1, if_neg (fun z => absurd z.1 (by decide))]
    exact r73
  refine ⟨τ, ?_, ⟨K, fun i => gI υ 75 i, rK, ((kτ K).trans (kω K)).trans kK, K3, ?_, by rw [← hN]; exact N6, fun x hx => ?_⟩, by rw [gτ, if_pos ⟨rfl, rfl⟩], ⟨K, rK, Or.inl r73, fun k m y1 y2 y3 y4 y5 => ?_, fun k m y1 => ?_, fun k m y1 y2 y3 => ?_, fun k y => (kτ k).trans (kω k), ?_⟩, ⟨by rw [hτ, nC_I, nC_I, nω], tτ⟩⟩
  · have e6 : gR σ1 6 s = some (7 + s) := by
      rw [r1, if_neg (fun z => absurd z.1 (by decide))]
      exact r6
    have e15 : gI σ1 15 s = (n : Int) := by
      rw [g1, if_neg (fun z => absurd z.1 (by decide))]
      exact g15
    have a4 : ao σ 4 (some 72) ∧ ak σ 6 (some K) := ⟨⟨rfl, rfl⟩, fun _ => by
      show (kd σ K).1 = 3
      rw [kK]⟩
    rw [e111_30, if_pos (g_73 (σ := σ) (i := (s : Int)) ▸ b8), Int.toNat_natCast, r73, if_pos a4, if_pos (g_6 (σ := σ) (i := (s : Int)) ▸ b8), if_pos (g_15 (σ := σ) (i := (s : Int)) ▸ b8), ← hσ1, e6, e15, hτ]
    refine c1 _ ?_
    rw [e111_177]
    exact RR_q t (by repeat (first | exact lq_nil | refine lq_cons (Or.inr rfl) ?_ | refine lq_cons (Or.inl rfl) ?_))
  · rw [gτ, if_neg (fun z => absurd z.1 (by decide)), if_pos ⟨rfl, rfl⟩, hN]
  · obtain ⟨u1, u2⟩ := v3 x hx
    refine ⟨u1, fun j hj => ?_⟩
    obtain ⟨o1, o2, o3, o4⟩ := u2 j hj
    have xr := (hl.2.2 x hx).2.2.2.1
    obtain ⟨z1, z2, z3, z4⟩ := w4 (x.2 + j) (Nat.zero_le _) (by omega)
    rw [gK, gK, gK, gK, z1, z2, z3, z4, o1, o2, o3, o4]
    exact ⟨rfl, rfl, rfl, rfl⟩
  · rw [gτ, if_neg y5, if_neg y4, w2 k m y1, v6 k m y2 y3 y1, g1, if_neg (fun z => y2 ⟨z.1, Or.inl z.2⟩)]
  · have : gL τ k m = gL ω k m := by rw [hτ]; rfl
    rw [this, lω, l1]
  · rw [rτ, rω, r1, if_neg y3]
  · have n1 : nC τ = nC σ := by rw [hτ, nC_I, nC_I, nω]
    have ac : accQ σ τ s := ⟨fun _ => ⟨n1, tτ⟩, fun z => by rw [r73] at z; cases z⟩
    rw [n1]
    exact ⟨Nat.le_refl _, ⟨Nat.le_succ _, ac⟩, Kn⟩
theorem alI_kd (h : ¬ K = nC σ) : kd (alI σ m) K = kd σ K := by
  have e' : (alI σ m).2.2.2.2.1 K = σ.2.2.2.2.1 K := by
    show (if K = nC σ then (3, m) else σ.2.2.2.2.1 K) = _
    rw [if_neg h]
  unfold kd
  rw [e']
  rfl
theorem alI_at (h1 : 153 ≤ nC σ) (h2 : nC σ < 1000000) : kd (alI σ m) (nC σ) = (3, m) := by
  have e1 : strK = 2000000 := rfl
  have e2 : fxN = 153 := rfl
  have e3 : scrK = 1000000 := rfl
  have e4 : strB = 3000000 := rfl
  unfold kd
  rw [if_neg (by omega), if_neg (by omega), if_neg (by omega), if_neg (by omega)]
  show (if nC σ = nC σ then (3, m) else _) = _
  rw [if_pos rfl]
theorem T111 (s8 : s < 8) (n2 : n ≤ 200) (hf : frmP p n (n + 1) 0 (fun _ => false) = (none, S)) (h0 : gI σ 17 s = 0) (hK : ∀ K, gR σ 73 s = some K → kd σ K = (3, 4800) ∧ 153 ≤ K ∧ K < nC σ) (c1 : 153 ≤ nC σ) (c2 : nC σ < 1000000) (r6 : gR σ 6 s = some (7 + s)) (g15 : gI σ 15 s = (n : Int)) (hp : ∀ j, gL σ (7 + s) j = p j) :
    ∃ τ, MM 111 [mR (some 72), mR (some 5), mI (s : Int)] σ = some (none, τ) ∧ trnC τ s p n ∧ gI τ 17 s = 1 ∧ trmC σ τ s := by
  have b8 : 0 ≤ (s : Int) ∧ (s : Int) < 8 := by omega
  have A := g_17 (σ := σ) (i := (s : Int))
  have B := g_73 (σ := σ) (i := (s : Int))
  have B' := g_73 (σ := alI σ 4800) (i := (s : Int))
  rw [M111, e111_0, if_pos (A ▸ b8), Int.toNat_natCast, if_pos h0, if_pos (B ▸ b8)]
  by_cases y : Option.isSome (gR σ 73 s) = true
  · obtain ⟨K, hk⟩ := Option.isSome_iff_exists.mp y
    rw [if_pos y]
    obtain ⟨τ, t, u1, u2, u3, _⟩ := L111b s8 n2 hf hk (hK K hk).1 (hK K hk).2.1 (hK K hk).2.2 r6 g15 hp
    exact ⟨τ, t, u1, u2, u3⟩
  · have rn : gR σ 73 s = none := by
      cases e : gR σ 73 s with
      | none => rfl
      | some K =>
        rw [e] at y
        exact absurd rfl y
    have ak' : aq (alI σ 4800) 7 (some (nC σ)) := fun _ => by
      show (kd (alI σ 4800) (nC σ)).1 = 3
      rw [alI_at c1 c2]
    have nn : ∀ k, k < 153 → ¬ k = nC σ := fun k h => by omega
    obtain ⟨ρ, hρ⟩ : ∃ ρ, ρ = sR (alI σ 4800) 73 s (some (nC σ)) := ⟨_, rfl⟩
    have aI : ∀ k m, ¬ k = nC σ → gI ρ k m = gI σ k m := fun k m h => by
      rw [hρ, gI_sR]
      show zr σ.1 (nC σ) (nC σ + 1) 0 k m = σ.1 k m
      unfold zr
      rw [if_neg (by omega)]
    have aL : ∀ k m, ¬ k = nC σ → gL ρ k m = gL σ k m := fun k m h => by
      rw [hρ, gL_sR]
      show zr σ.2.1 (nC σ) (nC σ + 1) 0 k m = σ.2.1 k m
      unfold zr
      rw [if_neg (by omega)]
    have aR : ∀ k m, ¬ k = nC σ → ¬ (k = 73 ∧ m = s) → gR ρ k m = gR σ k m := fun k m h h2 => by
      rw [hρ, gR_sR, if_neg h2]
      show zr σ.2.2.1 (nC σ) (nC σ + 1) none k m = σ.2.2.1 k m
      unfold zr
      rw [if_neg (by omega)]
    have ck : ∀ k, kd ρ k = kd (alI σ 4800) k := fun k => by rw [hρ]; rfl
    have cn : nC ρ = nC σ + 1 := by rw [hρ, nC_R]; rfl
    rw [if_neg y, if_pos ⟨B' ▸ b8, ak'⟩, ← hρ]
    obtain ⟨τ, t, u1, u2, ⟨K, v1, v2, v3, v4, v5, v6, v7, v8, v9⟩, vn⟩ := L111b (σ := ρ) (K := nC σ) s8 n2 hf (by rw [hρ, gR_sR, if_pos ⟨rfl, rfl⟩]) ((ck _).trans (alI_at c1 c2)) c1 (by rw [cn]; exact Nat.lt_succ_self _) ((aR 6 s (nn 6 (by omega)) (fun z => absurd z.1 (by decide))).trans r6) ((aI 15 s (nn 15 (by omega))).trans g15) (fun j => (aL (7 + s) j (nn (7 + s) (by omega))).trans (hp j))
    have rs : gR ρ 73 s = some (nC σ) := by rw [hρ, gR_sR, if_pos ⟨rfl, rfl⟩]
    have eK : K = nC σ := by
      rcases v2 with v2 | v2
      · rw [rs] at v2
        exact (Option.some.inj v2).symm
      · rw [rs] at v2
        cases v2.1
    refine ⟨τ, t, u1, u2, K, v1, Or.inr ⟨rn, eK⟩, fun k m y1 y2 y3 y4 y5 => ?_, fun k m y1 => ?_, fun k m y1 y2 y3 => ?_, fun k y1 => ?_, ?_, ?_, v9⟩
    · rw [v3 k m y1 y2 y3 y4 y5]
      exact aI k m (eK ▸ y1)
    · rw [v4 k m y1]
      exact aL k m (eK ▸ y1)
    · rw [v5 k m y1 y2 y3]
      exact aR k m (eK ▸ y1) y2
    · rw [v6 k y1, ck]
      exact alI_kd (eK ▸ y1)
    · omega
    · have ts : tS ρ = tS σ + 4800 := by
        rw [hρ]
        rfl
      exact ⟨by omega, fun z => absurd rn z, fun _ => ⟨by omega, by omega⟩⟩
end CEMU
