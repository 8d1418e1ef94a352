/-! ===== the class's plain code: what is laid ===== -/
abbrev Q4 : Type := Int × Int × Int × Int
def q40 : Q4 := (0, 0, 0, 0)
/-- operations L stand from place N on -/
def emP (σ τ : MS) (K N : Nat) (L : List Q4) : Prop := τ.2 = σ.2 ∧ gI τ 72 4 = ((N + L.length : Nat) : Int) ∧ gI τ 72 5 = (if L.length = 0 then gI σ 72 5 else 0) ∧ (∀ k s, ¬ (k = 72 ∧ (s = 4 ∨ s = 5)) → ¬ (k = K ∧ 4 * N ≤ s ∧ s < 4 * (N + L.length)) → gI τ k s = gI σ k s) ∧ ∀ j, j < L.length → gI τ K (4 * (N + j)) = (L.getD j q40).1 + (if j = 0 then gI σ 72 5 else 0) ∧ gI τ K (4 * (N + j) + 1) = (L.getD j q40).2.1 ∧ gI τ K (4 * (N + j) + 2) = (L.getD j q40).2.2.1 ∧ gI τ K (4 * (N + j) + 3) = (L.getD j q40).2.2.2
/-- where the next one comes -/
def emC (σ : MS) (K N : Nat) : Prop := gR σ 72 3 = some K ∧ kd σ K = (3, 4800) ∧ 153 ≤ K ∧ gI σ 72 4 = (N : Int) ∧ (gI σ 72 5 = 0 ∨ gI σ 72 5 = 65536)
/-! what words are turned into -/
def setQ (r x : Int) : Q4 := (0, r, x, iShr x 31)
def memQ (o : Int) (w : B64) (a b : Int) : Q4 := (o + 256 * ((bytN w : Nat) : Int), a, b, fO w)
def sidL (w : B64) : List Q4 := if rgt w then [] else [setQ 12 (fI w)]
def sidR (w : B64) : Int := if rgt w then fS w else 12
def hafQ (a b : Int) (sg : Prop) [Decidable sg] : Q4 := (if sg then 16 else 15, a, b, 32)
def opQ (c o : Int) : Int := if c = 0 then 2 else if c = 16 then 3 else if c = 32 then 4 else if c = 48 then (if o = 1 then 7 else 5) else if c = 64 then 9 else if c = 80 then 10 else if c = 96 then 12 else if c = 112 then 13 else if c = 144 then (if o = 1 then 8 else 6) else if c = 160 then 11 else 14
def cndQ (c : Int) : Int := if c = 16 then 20 else if c = 32 then 22 else if c = 48 then 23 else if c = 64 then 24 else if c = 80 then 21 else if c = 96 then 25 else if c = 160 then 22 else if c = 176 then 23 else if c = 192 then 25 else 26
def ordQ (w : B64) : List Q4 := if fOp w = 212 then (if fI w = 16 then [setQ 11 65535, (10, fD w, fD w, 11)] else [(if fI w = 32 then 15 else 1, fD w, fD w, 0)]) else [(17, fD w, fD w, Int.tdiv (fI w) 8)]
def halQ (w : B64) (y : Int) : List Q4 :=
  if fC w = 48 ∨ fC w = 144 then [hafQ 11 (fD w) (fO w = 1), hafQ 12 y (fO w = 1), (opQ (fC w) (fO w), fD w, 11, 12)]
  else if fC w = 96 ∨ fC w = 112 ∨ fC w = 192 then [setQ 13 31, (10, 12, y, 13), hafQ 11 (fD w) (fC w = 192), (opQ (fC w) (fO w), fD w, 11, 12)]
  else [(opQ (fC w) (fO w), fD w, fD w, y)]
def aluQ (w : B64) : List Q4 :=
  if fC w = 208 then ordQ w
  else (if fC w = 128 then [setQ 11 0, (3, fD w, 11, fD w)]
    else if fC w = 176 then sidL w ++ [(if fO w = 0 then 1 else 16, fD w, sidR w, fO w)]
    else if fL w = 7 then sidL w ++ [(opQ (fC w) (fO w), fD w, fD w, sidR w)]
    else sidL w ++ halQ w (sidR w)) ++ (if fL w = 7 then [] else [(15, fD w, fD w, 0)])
def lodQ (w : B64) : List Q4 := memQ 18 w (fD w) (fS w) :: (if fM w = 128 then [(16, fD w, fD w, 8 * ((bytN w : Nat) : Int))] else [])
def stoQ (w : B64) (N : Nat) : List Q4 :=
  if fM w = 96 then [memQ 19 w (fD w) (fS w)]
  else memQ 18 w 11 (fD w) :: (if fI w = 241 then [(if bytN w = 4 then 15 else 1, 12, 0, 0), (21, (N : Int) + 4, 11, 12), memQ 19 w (fD w) (fS w), (1, 0, 11, 0)]
    else (if fI w = 225 then [memQ 19 w (fD w) (fS w)] else [(opQ (fI w / 16 * 16) 0, 12, 11, fS w), memQ 19 w (fD w) 12]) ++ (if fI w % 2 = 1 then [(1, fS w, 11, 0)] else []))
def sgnQ (c : Int) : Prop := c = 96 ∨ c = 112 ∨ c = 192 ∨ c = 208
def cnqQ (c t x y : Int) : Q4 := (cndQ c + 131072, t, if 160 ≤ c then y else x, if 160 ≤ c then x else y)
noncomputable def jmpQ (w : B64) (t : Int) : List Q4 :=
  if fOp w = 149 then [(29, 0, 0, 0)]
  else if fOp w = 133 ∧ fS w = 0 then [(30, fI w, 0, 0)]
  else if t < 0 then [(27, -1, 0, 0)]
  else if fOp w = 133 then [(28 + 131072, t, 0, 0)]
  else if fOp w = 5 ∨ fOp w = 6 then [(27 + 131072, t, 0, 0)]
  else sidL w ++ (if fL w = 6 then [@hafQ 11 (fD w) (sgnQ (fC w)) (Classical.propDecidable _), @hafQ 12 (sidR w) (sgnQ (fC w)) (Classical.propDecidable _), cnqQ (fC w) t 11 12] else [cnqQ (fC w) t (fD w) (sidR w)])
def parQ (w w2 : B64) : List Q4 := if fS w = 1 then [setQ (fD w) (fI w + 1)] else [(0, fD w, fI w, fI w2)]
/-- a word -/
noncomputable def worQ (w : B64) (t : Int) (N : Nat) : List Q4 :=
  if fL w = 1 then lodQ w else if fL w = 2 then [setQ 11 (fI w), memQ 19 w (fD w) 11] else if fL w = 3 then stoQ w N else if fL w = 5 ∨ fL w = 6 then jmpQ w t else aluQ w
section CEMI
variable {σ τ ρ υ : MS} {w w2 : B64} {m n p q e j z N K : Nat} {y nx hh i x1 x2 a b c d o r x t : Int} {L L1 L2 : List Q4}
theorem or16 (h : 0 ≤ o ∧ o < 65536 ∨ 131072 ≤ o ∧ o < 196608) : iOr o 65536 = o + 65536 ∧ iOr o 0 = o := by
  have key : ∀ n : Nat, (n < 65536 ∨ 131072 ≤ n ∧ n < 196608) → n ||| 65536 = n + 65536 := fun n hn => by
    rcases hn with hn | hn
    · have := Nat.two_pow_add_eq_or_of_lt (i := 16) (b := n) (by omega) 1
      rw [Nat.or_comm, Nat.add_comm]
      exact this.symm
    · obtain ⟨y, hy⟩ : ∃ y, n = 131072 + y := ⟨n - 131072, by omega⟩
      have y16 : y < 2 ^ 16 := by omega
      have a2 := Nat.two_pow_add_eq_or_of_lt (i := 16) (b := y) y16 2
      have a3 := Nat.two_pow_add_eq_or_of_lt (i := 16) (b := y) y16 3
      have e2 : 2 ^ 16 * 2 = 131072 := rfl
      have e3 : 2 ^ 16 * 3 = 196608 := rfl
      rw [e2] at a2
      rw [e3] at a3
      rw [hy, a2, Nat.or_assoc, Nat.or_comm y 65536, ← Nat.or_assoc, show (131072 ||| 65536 : Nat) = 196608 from rfl, ← a3, ← a2]
      omega
  obtain ⟨n, hn⟩ : ∃ n : Nat, o = (n : Int) := ⟨o.toNat, by omega⟩
  have bn : ∀ m : Nat, b32 (m : Int) = BitVec.ofNat 32 m := fun m => BitVec.ofInt_natCast 32 m
  have k := key n (by omega)
  have ti : ∀ m : Nat, m < 2147483648 → (BitVec.ofNat 32 m).toInt = (m : Int) := fun m hm => by
    rw [BitVec.toInt_eq_toNat_bmod, BitVec.toNat_ofNat, Int.bmod_def]
    omega
  unfold iOr
  rw [hn]
  constructor
  · rw [bn n, show b32 65536 = BitVec.ofNat 32 65536 from rfl, ← BitVec.ofNat_or, k, ti _ (by omega)]
    rfl
  · rw [bn n, show b32 0 = BitVec.ofNat 32 0 from rfl, ← BitVec.ofNat_or, Nat.or_zero, ti _ (by omega)]
theorem emP_0 (h : gI σ 72 4 = (N : Int)) : emP σ σ K N [] := ⟨rfl, h, rfl, fun _ _ _ _ => rfl, fun j hj => absurd hj (Nat.not_lt_zero _)⟩
theorem emP_t (h1 : emP σ τ K N L1) (h2 : emP τ ρ K (N + L1.length) L2) (hK : 153 ≤ K) : emP σ ρ K N (L1 ++ L2) := by
  obtain ⟨a1, a2, a3, a4, a5⟩ := h1
  obtain ⟨b1, b2, b3, b4, b5⟩ := h2
  refine ⟨b1.trans a1, ?_, ?_, fun k s y1 y2 => ?_, fun j hj => ?_⟩
  · rw [b2, List.length_append, Nat.add_assoc]
  · rw [b3, a3, List.length_append]
    by_cases q2 : L2.length = 0
    · rw [if_pos q2]
      by_cases q1 : L1.length = 0
      · rw [if_pos q1, if_pos (by omega)]
      · rw [if_neg q1, if_neg (by omega)]
    · rw [if_neg q2, if_neg (by omega)]
  · rw [List.length_append] at y2
    rw [b4 k s y1 (by omega), a4 k s y1 (by omega)]
  · rw [List.length_append] at hj
    by_cases q : j < L1.length
    · have e : (L1 ++ L2).getD j q40 = L1.getD j q40 := by
        rw [List.getD_eq_getElem?_getD, List.getD_eq_getElem?_getD, List.getElem?_append_left q]
      rw [e, b4 _ _ (by omega) (by omega), b4 _ _ (by omega) (by omega), b4 _ _ (by omega) (by omega), b4 _ _ (by omega) (by omega)]
      exact a5 j q
    · have e : (L1 ++ L2).getD j q40 = L2.getD (j - L1.length) q40 := by
        rw [List.getD_eq_getElem?_getD, List.getD_eq_getElem?_getD, List.getElem?_append_right (by omega)]
      have z := b5 (j - L1.length) (by omega)
      rw [show N + L1.length + (j - L1.length) = N + j by omega] at z
      rw [e]
      refine ⟨?_, z.2⟩
      rw [z.1, a3]
      congr 1
      by_cases q1 : j - L1.length = 0
      · rw [if_pos q1]
        by_cases q2 : L1.length = 0
        · rw [if_pos q2, if_pos (by omega)]
        · rw [if_neg q2, if_neg (by omega)]
      · rw [if_neg q1, if_neg (by omega)]
theorem emC_p (h : emC σ K N) (p : emP σ τ K N L) : emC τ K (N + L.length) := by
  obtain ⟨h1, h2, h3, h4, h5⟩ := h
  obtain ⟨p1, p2, p3, _⟩ := p
  have er : gR τ 72 3 = gR σ 72 3 := by
    unfold gR
    rw [p1]
  have ek : kd τ K = kd σ K := by
    unfold kd
    rw [p1]
  refine ⟨er.trans h1, ek.trans h2, h3, p2, ?_⟩
  rw [p3]
  split
  · exact h5
  · exact Or.inl rfl
theorem T112 (h : emC σ K N) (hN : N < 1200) (ho : 0 ≤ o ∧ o < 65536 ∨ 131072 ≤ o ∧ o < 196608) : ∃ τ, MM 112 [mR (some 72), mI o, mI a, mI b, mI c] σ = some (none, τ) ∧ emP σ τ K N [(o, a, b, c)] := by
  obtain ⟨h1, h2, h3, h4, h5⟩ := h
  have gK : ∀ {σ : MS} {i : Int}, kd σ K = (3, 4800) → (Option.isSome (some K) = true ∧ ab σ 3 K i) = (0 ≤ i ∧ i < 4800) := fun z => gdK (n := 4800) z
  obtain ⟨B, hB⟩ : ∃ B, B = gI σ 72 5 := ⟨_, rfl⟩
  have oB : iOr o B = o + B := by
    rcases h5 with q | q
    · rw [hB, q, (or16 ho).2, Int.add_zero]
    · rw [hB, q, (or16 ho).1]
  have s0 : -2147483648 ≤ (N : Int) * 4 ∧ (N : Int) * 4 < 2147483648 := by omega
  have s1 : -2147483648 ≤ ((4 * N : Nat) : Int) + 1 ∧ ((4 * N : Nat) : Int) + 1 < 2147483648 := by omega
  have s2 : -2147483648 ≤ ((4 * N : Nat) : Int) + 2 ∧ ((4 * N : Nat) : Int) + 2 < 2147483648 := by omega
  have s3 : -2147483648 ≤ ((4 * N : Nat) : Int) + 3 ∧ ((4 * N : Nat) : Int) + 3 < 2147483648 := by omega
  have s4 : -2147483648 ≤ (N : Int) + 1 ∧ (N : Int) + 1 < 2147483648 := by omega
  have e0 : (N : Int) * 4 = ((4 * N : Nat) : Int) := by omega
  have e1 : ((4 * N : Nat) : Int) + 1 = ((4 * N + 1 : Nat) : Int) := rfl
  have e2 : ((4 * N : Nat) : Int) + 2 = ((4 * N + 2 : Nat) : Int) := rfl
  have e3 : ((4 * N : Nat) : Int) + 3 = ((4 * N + 3 : Nat) : Int) := rfl
  have b0 : 0 ≤ ((4 * N : Nat) : Int) ∧ ((4 * N : Nat) : Int) < 4800 := by omega
  have b1 : 0 ≤ ((4 * N + 1 : Nat) : Int) ∧ ((4 * N + 1 : Nat) : Int) < 4800 := by omega
  have b2 : 0 ≤ ((4 * N + 2 : Nat) : Int) ∧ ((4 * N + 2 : Nat) : Int) < 4800 := by omega
  have b3 : 0 ≤ ((4 * N + 3 : Nat) : Int) ∧ ((4 * N + 3 : Nat) : Int) < 4800 := by omega
  have nK : ¬ (72 = K) := by omega
  obtain ⟨τ, hτ⟩ : ∃ τ, τ = sI (sI (sI (sI (sI (sI σ K (4 * N) (o + B)) K (4 * N + 1) a) K (4 * N + 2) b) K (4 * N + 3) c) 72 5 0) 72 4 ((N : Int) + 1) := ⟨_, rfl⟩
  have g : ∀ k s, gI τ k s = if k = 72 ∧ s = 4 then (N : Int) + 1 else if k = 72 ∧ s = 5 then 0 else if k = K ∧ s = 4 * N + 3 then c else if k = K ∧ s = 4 * N + 2 then b else if k = K ∧ s = 4 * N + 1 then a else if k = K ∧ s = 4 * N then o + B else gI σ k s := fun k s => by
    rw [hτ, gI_sI, gI_sI, gI_sI, gI_sI, gI_sI, gI_sI]
  refine ⟨τ, ?_, by rw [hτ]; rfl, ?_, ?_, fun k s y1 y2 => ?_, fun j hj => ?_⟩
  · have w0 : w32 ((N : Int) * 4) = ((4 * N : Nat) : Int) := by rw [w32_i s0.1 s0.2, e0]
    have w1 : w32 (((4 * N : Nat) : Int) + 1) = ((4 * N + 1 : Nat) : Int) := by rw [w32_i s1.1 s1.2, e1]
    have w2 : w32 (((4 * N : Nat) : Int) + 2) = ((4 * N + 2 : Nat) : Int) := by rw [w32_i s2.1 s2.2, e2]
    have w3 : w32 (((4 * N : Nat) : Int) + 3) = ((4 * N + 3 : Nat) : Int) := by rw [w32_i s3.1 s3.2, e3]
    have w4 : w32 ((N : Int) + 1) = (N : Int) + 1 := w32_i s4.1 s4.2
    have r1 : ∀ (ρ : MS), ρ.2 = σ.2 → gR ρ 72 3 = some K := fun ρ e => by
      have : gR ρ 72 3 = gR σ 72 3 := by
        unfold gR
        rw [e]
      exact this.trans h1
    have k1 : ∀ (ρ : MS), ρ.2 = σ.2 → kd ρ K = (3, 4800) := fun ρ e => by
      have : kd ρ K = kd σ K := by
        unfold kd
        rw [e]
      exact this.trans h2
    obtain ⟨α, hα⟩ : ∃ α, α = sI σ K (4 * N) (o + B) := ⟨_, rfl⟩
    obtain ⟨β, hβ⟩ : ∃ β, β = sI α K (4 * N + 1) a := ⟨_, rfl⟩
    obtain ⟨γ, hγ⟩ : ∃ γ, γ = sI β K (4 * N + 2) b := ⟨_, rfl⟩
    have a2 : α.2 = σ.2 := by rw [hα]; rfl
    have a3 : β.2 = σ.2 := by rw [hβ]; exact a2
    have a4 : γ.2 = σ.2 := by rw [hγ]; exact a3
    obtain ⟨δ, hδ⟩ : ∃ δ, δ = sI (sI γ K (4 * N + 3) c) 72 5 0 := ⟨_, rfl⟩
    have d4 : gI δ 72 4 = (N : Int) := by
      rw [hδ, gI_sI, if_neg (fun z => absurd z.2 (by decide)), gI_sI, if_neg (fun z => nK z.1), hγ, gI_sI, if_neg (fun z => nK z.1), hβ, gI_sI, if_neg (fun z => nK z.1), hα, gI_sI, if_neg (fun z => nK z.1)]
      exact h4
    have eτ : sI δ 72 4 ((N : Int) + 1) = τ := by rw [hτ, hδ, hγ, hβ, hα]
    rw [M112, e112_0, h4, w0, h1, ← hB, oB]
    simp only [Option.getD_some, gK h2, b0.1, b0.2, and_self, if_true, Int.toNat_natCast, ← hα, r1 α a2, w1, gK (k1 α a2), b1.1, b1.2, ← hβ, r1 β a3, w2, gK (k1 β a3), b2.1, b2.2, ← hγ]
    rw [e112_41, r1 γ a4, w3]
    simp only [Option.getD_some, gK (k1 γ a4), b3.1, b3.2, and_self, if_true, Int.toNat_natCast, ← hδ, d4, w4, eτ]
    rw [e112_67]
  · rw [g, if_pos ⟨rfl, rfl⟩]
    rfl
  · rw [g, if_neg (by omega), if_pos ⟨rfl, rfl⟩]
    rfl
  · have y2 : ¬ (k = K ∧ 4 * N ≤ s ∧ s < 4 * (N + 1)) := y2
    rw [g, if_neg (by omega), if_neg (by omega), if_neg (by omega), if_neg (by omega), if_neg (by omega), if_neg (by omega)]
  · have hj : j < 1 := hj
    have j0 : j = 0 := by omega
    subst j0
    have c0 : gI τ K (4 * N) = o + B := by rw [g, if_neg (by omega), if_neg (by omega), if_neg (by omega), if_neg (by omega), if_neg (by omega), if_pos ⟨rfl, rfl⟩]
    have c1 : gI τ K (4 * N + 1) = a := by rw [g, if_neg (by omega), if_neg (by omega), if_neg (by omega), if_neg (by omega), if_pos ⟨rfl, rfl⟩]
    have c2 : gI τ K (4 * N + 2) = b := by rw [g, if_neg (by omega), if_neg (by omega), if_neg (by omega), if_pos ⟨rfl, rfl⟩]
    have c3 : gI τ K (4 * N + 3) = c := by rw [g, if_neg (by omega), if_neg (by omega), if_pos ⟨rfl, rfl⟩]
    rw [Nat.add_zero, c0, c1, c2, c3, if_pos rfl, ← hB]
    exact ⟨rfl, rfl, rfl, rfl⟩
theorem T113 (h : emC σ K N) (hN : N < 1200) : ∃ τ, MM 113 [mR (some 72), mI r, mI x] σ = some (none, τ) ∧ emP σ τ K N [setQ r x] := by
  obtain ⟨τ, t, p⟩ := T112 (o := 0) (a := r) (b := x) (c := iShr x 31) h hN (by omega)
  refine ⟨τ, ?_, p⟩
  rw [M113, e113_0, t]
  simp only [Option.getD_some, Option.bind_some, Option.toList_some, Option.toList_none, List.cons_append, List.nil_append, and_self, and_true, true_and, false_and, and_false, ite_self, not_true_eq_false, not_false_eq_true, reduceIte, Nat.reduceEqDiff, ab_I, ab_L, ab_R, ao_I, ao_L, ao_R, gL_sL, gI_sI, gR_sR, gI_sL, gI_sR, gL_sI, gL_sR, gR_sI, gR_sL, e113_11]
theorem T119 : MM 119 [mI c, mI o] σ = some (some (mI (opQ c o)), σ) := by
  rw [M119, e119_0]
  unfold opQ
  by_cases o1 : o = 1
  · simp only [o1, not_true_eq_false, if_false, if_true]
    repeat' split
    all_goals rfl
  · simp only [o1, not_false_eq_true, if_false, if_true]
    repeat' split
    all_goals rfl
theorem T120 (h : emC σ K N) (hN : N < 1200) : ∃ τ, MM 120 [mR (some 72), mL w] σ = some (some (mI (sidR w)), τ) ∧ emP σ τ K N (sidL w) := by
  unfold sidR sidL
  by_cases r : rgt w
  · have e8 : ¬ (w &&& iL 8 = BitVec.ofNat 64 0) := by rw [b8_w]; exact not_not_intro r
    refine ⟨σ, ?_, ?_⟩
    · rw [if_pos r, M120, e120_0, if_neg e8, T2]
      simp only [Option.getD_some, Option.bind_some, Option.toList_some, Option.toList_none, List.cons_append, List.nil_append, and_self, and_true, true_and, false_and, and_false, ite_self, not_true_eq_false, not_false_eq_true, reduceIte, Nat.reduceEqDiff, ab_I, ab_L, ab_R, ao_I, ao_L, ao_R, gL_sL, gI_sI, gR_sR, gI_sL, gI_sR, gL_sI, gL_sR, gR_sI, gR_sL, e120_14]
    · rw [if_pos r]
      exact emP_0 h.2.2.2.1
  · have e8 : w &&& iL 8 = BitVec.ofNat 64 0 := by rw [b8_w]; exact r
    obtain ⟨τ, t, p⟩ := T113 (r := 12) (x := fI w) h hN
    refine ⟨τ, ?_, by rw [if_neg r]; exact p⟩
    rw [if_neg r, M120, e120_0, if_pos e8, T4]
    simp only [Option.getD_some, Option.bind_some, Option.toList_some, Option.toList_none, List.cons_append, List.nil_append, and_self, and_true, true_and, false_and, and_false, ite_self, not_true_eq_false, not_false_eq_true, reduceIte, Nat.reduceEqDiff, ab_I, ab_L, ab_R, ao_I, ao_L, ao_R, gL_sL, gI_sI, gR_sR, gI_sL, gI_sR, gL_sI, gL_sR, gR_sI, gR_sL]
    rw [e120_22, t]
    simp only [Option.getD_some, Option.bind_some, Option.toList_some, Option.toList_none, List.cons_append, List.nil_append, and_self, and_true, true_and, false_and, and_false, ite_self, not_true_eq_false, not_false_eq_true, reduceIte, Nat.reduceEqDiff, ab_I, ab_L, ab_R, ao_I, ao_L, ao_R, gL_sL, gI_sI, gR_sR, gI_sL, gI_sR, gL_sI, gL_sR, gR_sI, gR_sL, e120_25]
theorem T121 {sg : Prop} {ds : Decidable sg} {s : Int} (hs : (s = 0) = ¬ sg) (h : emC σ K N) (hN : N < 1200) : ∃ τ, MM 121 [mR (some 72), mI a, mI b, mI s] σ = some (none, τ) ∧ emP σ τ K N [@hafQ a b sg ds] := by
  by_cases q : sg
  · obtain ⟨τ, t, p⟩ := T112 (o := 16) (a := a) (b := b) (c := 32) h hN (by omega)
    refine ⟨τ, ?_, ?_⟩
    · rw [M121, e121_0, if_neg (by rw [hs]; exact not_not_intro q), e121_12, t]
      simp only [Option.getD_some, Option.bind_some, Option.toList_some, Option.toList_none, List.cons_append, List.nil_append, and_self, and_true, true_and, false_and, and_false, ite_self, not_true_eq_false, not_false_eq_true, reduceIte, Nat.reduceEqDiff, ab_I, ab_L, ab_R, ao_I, ao_L, ao_R, gL_sL, gI_sI, gR_sR, gI_sL, gI_sR, gL_sI, gL_sR, gR_sI, gR_sL, e121_19]
    · unfold hafQ
      rw [if_pos q]
      exact p
  · obtain ⟨τ, t, p⟩ := T112 (o := 15) (a := a) (b := b) (c := 32) h hN (by omega)
    refine ⟨τ, ?_, ?_⟩
    · rw [M121, e121_0, if_pos (by rw [hs]; exact q), e121_12, t]
      simp only [Option.getD_some, Option.bind_some, Option.toList_some, Option.toList_none, List.cons_append, List.nil_append, and_self, and_true, true_and, false_and, and_false, ite_self, not_true_eq_false, not_false_eq_true, reduceIte, Nat.reduceEqDiff, ab_I, ab_L, ab_R, ao_I, ao_L, ao_R, gL_sL, gI_sI, gR_sR, gI_sL, gI_sR, gL_sI, gL_sR, gR_sI, gR_sL, e121_19]
    · unfold hafQ
      rw [if_neg q]
      exact p
theorem T116 (ho : o = 18 ∨ o = 19) (h : emC σ K N) (hN : N < 1200) : ∃ τ, MM 116 [mR (some 72), mI o, mL w, mI a, mI b] σ = some (none, τ) ∧ emP σ τ K N [memQ o w a b] := by
  have b8 := byt_1 w
  obtain ⟨τ, t, p⟩ := T112 (o := o + 256 * ((bytN w : Nat) : Int)) (a := a) (b := b) (c := fO w) h hN (by omega)
  refine ⟨τ, ?_, p⟩
  have eo : iOr o (iShl ((bytN w : Nat) : Int) 8) = o + 256 * ((bytN w : Nat) : Int) := by
    have : ∀ n : Nat, 1 ≤ n → n ≤ 8 → ∀ o : Int, o = 18 ∨ o = 19 → iOr o (iShl (n : Int) 8) = o + 256 * (n : Int) := by
      intro n h1 h2 o ho
      have : n = 1 ∨ n = 2 ∨ n = 3 ∨ n = 4 ∨ n = 5 ∨ n = 6 ∨ n = 7 ∨ n = 8 := by omega
      rcases this with q | q | q | q | q | q | q | q <;> rcases ho with e | e <;> (rw [q, e]; decide)
    exact this _ b8.1 b8.2 o ho
  rw [M116, e116_0, T0]
  simp only [Option.getD_some, Option.bind_some, Option.toList_some, Option.toList_none, List.cons_append, List.nil_append, and_self, and_true, true_and, false_and, and_false, ite_self, not_true_eq_false, not_false_eq_true, reduceIte, Nat.reduceEqDiff, ab_I, ab_L, ab_R, ao_I, ao_L, ao_R, gL_sL, gI_sI, gR_sR, gI_sL, gI_sR, gL_sI, gL_sR, gR_sI, gR_sL]
  rw [e116_6, T5]
  simp only [Option.getD_some, Option.bind_some, Option.toList_some, Option.toList_none, List.cons_append, List.nil_append, and_self, and_true, true_and, false_and, and_false, ite_self, not_true_eq_false, not_false_eq_true, reduceIte, Nat.reduceEqDiff, ab_I, ab_L, ab_R, ao_I, ao_L, ao_R, gL_sL, gI_sI, gR_sR, gI_sL, gI_sR, gL_sI, gL_sR, gR_sI, gR_sL]
  rw [e116_9, T3]
  simp only [Option.getD_some, Option.bind_some, Option.toList_some, Option.toList_none, List.cons_append, List.nil_append, and_self, and_true, true_and, false_and, and_false, ite_self, not_true_eq_false, not_false_eq_true, reduceIte, Nat.reduceEqDiff, ab_I, ab_L, ab_R, ao_I, ao_L, ao_R, gL_sL, gI_sI, gR_sR, gI_sL, gI_sR, gL_sI, gL_sR, gR_sI, gR_sL, eo]
  rw [e116_21, t]
  simp only [Option.getD_some, Option.bind_some, Option.toList_some, Option.toList_none, List.cons_append, List.nil_append, and_self, and_true, true_and, false_and, and_false, ite_self, not_true_eq_false, not_false_eq_true, reduceIte, Nat.reduceEqDiff, ab_I, ab_L, ab_R, ao_I, ao_L, ao_R, gL_sL, gI_sI, gR_sR, gI_sL, gI_sR, gL_sI, gL_sR, gR_sI, gR_sL, e116_24]
theorem T127 : MM 127 [mI c] σ = some (some (mI (cndQ c)), σ) := by
  rw [M127, e127_0]
  unfold cndQ
  repeat' split
  all_goals rfl
theorem T114 (s01 : fS w = 0 ∨ fS w = 1) (fi : fS w = 1 → 0 ≤ fI w ∧ fI w ≤ 7) (h : emC σ K N) (hN : N < 1200) : ∃ τ, MM 114 [mR (some 72), mL w, mL w2] σ = some (none, τ) ∧ emP σ τ K N (parQ w w2) := by
  unfold parQ
  by_cases s1 : fS w = 1
  · have w1 : w32 (fI w + 1) = fI w + 1 := w32_i (by have := fi s1; omega) (by have := fi s1; omega)
    obtain ⟨τ, t, p⟩ := T113 (r := fD w) (x := fI w + 1) h hN
    refine ⟨τ, ?_, by rw [if_pos s1]; exact p⟩
    rw [M114, e114_0, T2]
    simp only [Option.getD_some, Option.bind_some, Option.toList_some, Option.toList_none, List.cons_append, List.nil_append, and_self, and_true, true_and, false_and, and_false, ite_self, not_true_eq_false, not_false_eq_true, reduceIte, Nat.reduceEqDiff, ab_I, ab_L, ab_R, ao_I, ao_L, ao_R, gL_sL, gI_sI, gR_sR, gI_sL, gI_sR, gL_sI, gL_sR, gR_sI, gR_sL]
    rw [e114_4, s1, if_neg (by decide), T1]
    simp only [Option.getD_some, Option.bind_some, Option.toList_some, Option.toList_none, List.cons_append, List.nil_append, and_self, and_true, true_and, false_and, and_false, ite_self, not_true_eq_false, not_false_eq_true, reduceIte, Nat.reduceEqDiff, ab_I, ab_L, ab_R, ao_I, ao_L, ao_R, gL_sL, gI_sI, gR_sR, gI_sL, gI_sR, gL_sI, gL_sR, gR_sI, gR_sL]
    rw [e114_13, T4]
    simp only [Option.getD_some, Option.bind_some, Option.toList_some, Option.toList_none, List.cons_append, List.nil_append, and_self, and_true, true_and, false_and, and_false, ite_self, not_true_eq_false, not_false_eq_true, reduceIte, Nat.reduceEqDiff, ab_I, ab_L, ab_R, ao_I, ao_L, ao_R, gL_sL, gI_sI, gR_sR, gI_sL, gI_sR, gL_sI, gL_sR, gR_sI, gR_sL]
    rw [e114_17, M192, e192_0, w1]
    simp only [Option.getD_some, Option.bind_some, Option.toList_some, Option.toList_none, List.cons_append, List.nil_append, and_self, and_true, true_and, false_and, and_false, ite_self, not_true_eq_false, not_false_eq_true, reduceIte, Nat.reduceEqDiff, ab_I, ab_L, ab_R, ao_I, ao_L, ao_R, gL_sL, gI_sI, gR_sR, gI_sL, gI_sR, gL_sI, gL_sR, gR_sI, gR_sL]
    rw [e114_20, t]
    simp only [Option.getD_some, Option.bind_some, Option.toList_some, Option.toList_none, List.cons_append, List.nil_append, and_self, and_true, true_and, false_and, and_false, ite_self, not_true_eq_false, not_false_eq_true, reduceIte, Nat.reduceEqDiff, ab_I, ab_L, ab_R, ao_I, ao_L, ao_R, gL_sL, gI_sI, gR_sR, gI_sL, gI_sR, gL_sI, gL_sR, gR_sI, gR_sL, e114_23, e114_43]
  · obtain ⟨τ, t, p⟩ := T112 (o := 0) (a := fD w) (b := fI w) (c := fI w2) h hN (by omega)
    refine ⟨τ, ?_, by rw [if_neg s1]; exact p⟩
    rw [M114, e114_0, T2]
    simp only [Option.getD_some, Option.bind_some, Option.toList_some, Option.toList_none, List.cons_append, List.nil_append, and_self, and_true, true_and, false_and, and_false, ite_self, not_true_eq_false, not_false_eq_true, reduceIte, Nat.reduceEqDiff, ab_I, ab_L, ab_R, ao_I, ao_L, ao_R, gL_sL, gI_sI, gR_sR, gI_sL, gI_sR, gL_sI, gL_sR, gR_sI, gR_sL]
    rw [e114_4, if_pos s1, T1]
    simp only [Option.getD_some, Option.bind_some, Option.toList_some, Option.toList_none, List.cons_append, List.nil_append, and_self, and_true, true_and, false_and, and_false, ite_self, not_true_eq_false, not_false_eq_true, reduceIte, Nat.reduceEqDiff, ab_I, ab_L, ab_R, ao_I, ao_L, ao_R, gL_sL, gI_sI, gR_sR, gI_sL, gI_sR, gL_sI, gL_sR, gR_sI, gR_sL]
    rw [e114_32, T4]
    simp only [Option.getD_some, Option.bind_some, Option.toList_some, Option.toList_none, List.cons_append, List.nil_append, and_self, and_true, true_and, false_and, and_false, ite_self, not_true_eq_false, not_false_eq_true, reduceIte, Nat.reduceEqDiff, ab_I, ab_L, ab_R, ao_I, ao_L, ao_R, gL_sL, gI_sI, gR_sR, gI_sL, gI_sR, gL_sI, gL_sR, gR_sI, gR_sL]
    rw [e114_36, T4]
    simp only [Option.getD_some, Option.bind_some, Option.toList_some, Option.toList_none, List.cons_append, List.nil_append, and_self, and_true, true_and, false_and, and_false, ite_self, not_true_eq_false, not_false_eq_true, reduceIte, Nat.reduceEqDiff, ab_I, ab_L, ab_R, ao_I, ao_L, ao_R, gL_sL, gI_sI, gR_sR, gI_sL, gI_sR, gL_sI, gL_sR, gR_sI, gR_sL]
    rw [e114_40, t]
    simp only [Option.getD_some, Option.bind_some, Option.toList_some, Option.toList_none, List.cons_append, List.nil_append, and_self, and_true, true_and, false_and, and_false, ite_self, not_true_eq_false, not_false_eq_true, reduceIte, Nat.reduceEqDiff, ab_I, ab_L, ab_R, ao_I, ao_L, ao_R, gL_sL, gI_sI, gR_sR, gI_sL, gI_sR, gL_sI, gL_sR, gR_sI, gR_sL, e114_43]
theorem T117 (h : emC σ K N) (hN : N < 1199) : ∃ τ, MM 117 [mR (some 72), mL w] σ = some (none, τ) ∧ emP σ τ K N (lodQ w) := by
  have w224 : iAnd (fOp w) 224 = fM w := m224 w
  have b8 := byt_1 w
  have ww : w32 (8 * ((bytN w : Nat) : Int)) = 8 * ((bytN w : Nat) : Int) := w32_i (by omega) (by omega)
  obtain ⟨τ, t, p⟩ := T116 (o := 18) (w := w) (a := fD w) (b := fS w) (Or.inl rfl) h (by omega)
  have s : MM 117 [mR (some 72), mL w] σ = RR (lkB tb117) (B117_21, [some (mR (some 72)), some (mL w), none, some (mI (fD w))], [mI (fOp w)], τ) := by
    rw [M117, e117_0, T1]
    simp only [Option.getD_some, Option.bind_some, Option.toList_some, Option.toList_none, List.cons_append, List.nil_append, and_self, and_true, true_and, false_and, and_false, ite_self, not_true_eq_false, not_false_eq_true, reduceIte, Nat.reduceEqDiff, ab_I, ab_L, ab_R, ao_I, ao_L, ao_R, gL_sL, gI_sI, gR_sR, gI_sL, gI_sR, gL_sI, gL_sR, gR_sI, gR_sL]
    rw [e117_4, T2]
    simp only [Option.getD_some, Option.bind_some, Option.toList_some, Option.toList_none, List.cons_append, List.nil_append, and_self, and_true, true_and, false_and, and_false, ite_self, not_true_eq_false, not_false_eq_true, reduceIte, Nat.reduceEqDiff, ab_I, ab_L, ab_R, ao_I, ao_L, ao_R, gL_sL, gI_sI, gR_sR, gI_sL, gI_sR, gL_sI, gL_sR, gR_sI, gR_sL]
    rw [e117_14, t]
    simp only [Option.getD_some, Option.bind_some, Option.toList_some, Option.toList_none, List.cons_append, List.nil_append, and_self, and_true, true_and, false_and, and_false, ite_self, not_true_eq_false, not_false_eq_true, reduceIte, Nat.reduceEqDiff, ab_I, ab_L, ab_R, ao_I, ao_L, ao_R, gL_sL, gI_sI, gR_sR, gI_sL, gI_sR, gL_sI, gL_sR, gR_sI, gR_sL]
    rw [e117_17, T0]
    simp only [Option.getD_some, Option.bind_some, Option.toList_some, Option.toList_none, List.cons_append, List.nil_append, and_self, and_true, true_and, false_and, and_false, ite_self, not_true_eq_false, not_false_eq_true, reduceIte, Nat.reduceEqDiff, ab_I, ab_L, ab_R, ao_I, ao_L, ao_R, gL_sL, gI_sI, gR_sR, gI_sL, gI_sR, gL_sI, gL_sR, gR_sI, gR_sL]
  unfold lodQ
  rw [s, e117_21, w224]
  by_cases m : fM w = 128
  · obtain ⟨τ2, t2, p2⟩ := T112 (o := 16) (a := fD w) (b := fD w) (c := 8 * ((bytN w : Nat) : Int)) (emC_p h p) (by show N + 1 < 1200; omega) (by omega)
    refine ⟨τ2, ?_, by rw [if_pos m]; exact emP_t p p2 h.2.2.1⟩
    rw [if_neg (not_not_intro m), T0]
    simp only [Option.getD_some, Option.bind_some, Option.toList_some, Option.toList_none, List.cons_append, List.nil_append, and_self, and_true, true_and, false_and, and_false, ite_self, not_true_eq_false, not_false_eq_true, reduceIte, Nat.reduceEqDiff, ab_I, ab_L, ab_R, ao_I, ao_L, ao_R, gL_sL, gI_sI, gR_sR, gI_sL, gI_sR, gL_sI, gL_sR, gR_sI, gR_sL]
    rw [e117_42, T5]
    simp only [Option.getD_some, Option.bind_some, Option.toList_some, Option.toList_none, List.cons_append, List.nil_append, and_self, and_true, true_and, false_and, and_false, ite_self, not_true_eq_false, not_false_eq_true, reduceIte, Nat.reduceEqDiff, ab_I, ab_L, ab_R, ao_I, ao_L, ao_R, gL_sL, gI_sI, gR_sR, gI_sL, gI_sR, gL_sI, gL_sR, gR_sI, gR_sL]
    rw [e117_45, ww, t2]
    simp only [Option.getD_some, Option.bind_some, Option.toList_some, Option.toList_none, List.cons_append, List.nil_append, and_self, and_true, true_and, false_and, and_false, ite_self, not_true_eq_false, not_false_eq_true, reduceIte, Nat.reduceEqDiff, ab_I, ab_L, ab_R, ao_I, ao_L, ao_R, gL_sL, gI_sI, gR_sR, gI_sL, gI_sR, gL_sI, gL_sR, gR_sI, gR_sL, e117_49]
  · refine ⟨τ, ?_, by rw [if_neg m]; exact p⟩
    rw [if_pos m, e117_49]
end CEMI
