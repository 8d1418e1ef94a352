/-! ===== the reference's judge: what is known ahead of a word ===== -/
/-- the number that is told of a VALUE -/
def rcN (v : VL) : N6 := if vk v = 1 ∨ vk v = 5 ∨ vk v = 7 ∨ vk v = 9 then vn v else (0#64, 0#64, 0#64, 0#64, 0#64, 0#64)
def recS (σ : MS) (i r : Nat) (v : VL) : MS :=
  sI (sI (sI (sI (sL (sL (sL (sL (sL (sL σ 140 (60 * i + 6 * r) (jV (rcN v))) 140 (60 * i + 6 * r + 1) (jM (rcN v))) 140 (60 * i + 6 * r + 2) (jA (rcN v))) 140 (60 * i + 6 * r + 3) (jB (rcN v))) 140 (60 * i + 6 * r + 4) (jC (rcN v))) 140 (60 * i + 6 * r + 5) (jD (rcN v))) 141 (40 * i + 4 * r) (vk v)) 141 (40 * i + 4 * r + 1) (vo v)) 141 (40 * i + 4 * r + 2) (vw v)) 141 (40 * i + 4 * r + 3) (vr v)
def recN (σ : MS) (S : ST) (i : Nat) : Nat → MS
  | 0 => sI σ 139 i 1
  | n + 1 => recS (recN σ S i n) i n (rgV S n)
/-- what is known ahead of word i is S -/
def KN1 (σ : MS) (i : Nat) (S : ST) : Prop := gI σ 139 i = 1 ∧ ∀ r, r < 10 → (gL σ 140 (60 * i + 6 * r) = jV (rcN (rgV S r)) ∧ gL σ 140 (60 * i + 6 * r + 1) = jM (rcN (rgV S r)) ∧ gL σ 140 (60 * i + 6 * r + 2) = jA (rcN (rgV S r)) ∧ gL σ 140 (60 * i + 6 * r + 3) = jB (rcN (rgV S r)) ∧ gL σ 140 (60 * i + 6 * r + 4) = jC (rcN (rgV S r)) ∧ gL σ 140 (60 * i + 6 * r + 5) = jD (rcN (rgV S r))) ∧ gI σ 141 (40 * i + 4 * r) = vk (rgV S r) ∧ gI σ 141 (40 * i + 4 * r + 1) = vo (rgV S r) ∧ gI σ 141 (40 * i + 4 * r + 2) = vw (rgV S r) ∧ gI σ 141 (40 * i + 4 * r + 3) = vr (rgV S r)
section REM
variable {σ τ ρ : MS} {S : ST} {i k s : Nat}
theorem rs_I {r : Nat} {v : VL} (h : ¬ (k = 141 ∧ 40 * i + 4 * r ≤ s ∧ s < 40 * i + 4 * r + 4)) : gI (recS σ i r v) k s = gI σ k s := by
  unfold recS
  rw [gI_sI, if_neg (by omega), gI_sI, if_neg (by omega), gI_sI, if_neg (by omega), gI_sI, if_neg (by omega)]
  rfl
theorem rs_L {r : Nat} {v : VL} (h : ¬ (k = 140 ∧ 60 * i + 6 * r ≤ s ∧ s < 60 * i + 6 * r + 6)) : gL (recS σ i r v) k s = gL σ k s := by
  unfold recS
  rw [gL_sI, gL_sI, gL_sI, gL_sI, gL_sL, if_neg (by omega), gL_sL, if_neg (by omega), gL_sL, if_neg (by omega), gL_sL, if_neg (by omega), gL_sL, if_neg (by omega), gL_sL, if_neg (by omega)]
theorem rc_I : ∀ n : Nat, n ≤ 10 → ¬ (k = 139 ∧ s = i) → ¬ (k = 141 ∧ 40 * i ≤ s ∧ s < 40 * i + 40) → gI (recN σ S i n) k s = gI σ k s := by
  intro n
  induction n with
  | zero =>
    intro _ h1 _
    show gI (sI σ 139 i 1) k s = _
    rw [gI_sI, if_neg h1]
  | succ n ih =>
    intro h h1 h2
    show gI (recS (recN σ S i n) i n (rgV S n)) k s = _
    rw [rs_I (by omega)]
    exact ih (by omega) h1 h2
theorem rc_L : ∀ n : Nat, n ≤ 10 → ¬ (k = 140 ∧ 60 * i ≤ s ∧ s < 60 * i + 60) → gL (recN σ S i n) k s = gL σ k s := by
  intro n
  induction n with
  | zero => intro _ _; rfl
  | succ n ih =>
    intro h h2
    show gL (recS (recN σ S i n) i n (rgV S n)) k s = _
    rw [rs_L (by omega)]
    exact ih (by omega) h2
theorem rc_r : ∀ n : Nat, (recN σ S i n).2.2 = σ.2.2
  | 0 => rfl
  | n + 1 => rc_r n
theorem rc_V {j : Nat} {n : Nat} (hn : n ≤ 10) : aV (recN σ S i n) j = aV σ j := by
  unfold aV rNv
  rw [rc_I n hn (by omega) (by omega), rc_I n hn (by omega) (by omega), rc_I n hn (by omega) (by omega), rc_I n hn (by omega) (by omega), rc_I n hn (by omega) (by omega), rc_L n hn (by omega), rc_L n hn (by omega), rc_L n hn (by omega), rc_L n hn (by omega), rc_L n hn (by omega), rc_L n hn (by omega)]
theorem rs_self {r : Nat} {v : VL} : (gL (recS σ i r v) 140 (60 * i + 6 * r) = jV (rcN v) ∧ gL (recS σ i r v) 140 (60 * i + 6 * r + 1) = jM (rcN v) ∧ gL (recS σ i r v) 140 (60 * i + 6 * r + 2) = jA (rcN v) ∧ gL (recS σ i r v) 140 (60 * i + 6 * r + 3) = jB (rcN v) ∧ gL (recS σ i r v) 140 (60 * i + 6 * r + 4) = jC (rcN v) ∧ gL (recS σ i r v) 140 (60 * i + 6 * r + 5) = jD (rcN v)) ∧ gI (recS σ i r v) 141 (40 * i + 4 * r) = vk v ∧ gI (recS σ i r v) 141 (40 * i + 4 * r + 1) = vo v ∧ gI (recS σ i r v) 141 (40 * i + 4 * r + 2) = vw v ∧ gI (recS σ i r v) 141 (40 * i + 4 * r + 3) = vr v := by
  unfold recS
  refine ⟨⟨?_, ?_, ?_, ?_, ?_, ?_⟩, ?_, ?_, ?_, ?_⟩
  · rw [gL_sI, gL_sI, gL_sI, gL_sI, gL_sL, if_neg (by omega), gL_sL, if_neg (by omega), gL_sL, if_neg (by omega), gL_sL, if_neg (by omega), gL_sL, if_neg (by omega), gL_sL, if_pos ⟨rfl, rfl⟩]
  · rw [gL_sI, gL_sI, gL_sI, gL_sI, gL_sL, if_neg (by omega), gL_sL, if_neg (by omega), gL_sL, if_neg (by omega), gL_sL, if_neg (by omega), gL_sL, if_pos ⟨rfl, rfl⟩]
  · rw [gL_sI, gL_sI, gL_sI, gL_sI, gL_sL, if_neg (by omega), gL_sL, if_neg (by omega), gL_sL, if_neg (by omega), gL_sL, if_pos ⟨rfl, rfl⟩]
  · rw [gL_sI, gL_sI, gL_sI, gL_sI, gL_sL, if_neg (by omega), gL_sL, if_neg (by omega), gL_sL, if_pos ⟨rfl, rfl⟩]
  · rw [gL_sI, gL_sI, gL_sI, gL_sI, gL_sL, if_neg (by omega), gL_sL, if_pos ⟨rfl, rfl⟩]
  · rw [gL_sI, gL_sI, gL_sI, gL_sI, gL_sL, if_pos ⟨rfl, rfl⟩]
  · rw [gI_sI, if_neg (by omega), gI_sI, if_neg (by omega), gI_sI, if_neg (by omega), gI_sI, if_pos ⟨rfl, rfl⟩]
  · rw [gI_sI, if_neg (by omega), gI_sI, if_neg (by omega), gI_sI, if_pos ⟨rfl, rfl⟩]
  · rw [gI_sI, if_neg (by omega), gI_sI, if_pos ⟨rfl, rfl⟩]
  · rw [gI_sI, if_pos ⟨rfl, rfl⟩]
theorem rc_K : KN1 (recN σ S i 10) i S := by
  have key : ∀ n : Nat, n ≤ 10 → gI (recN σ S i n) 139 i = 1 ∧ ∀ r, r < n → (gL (recN σ S i n) 140 (60 * i + 6 * r) = jV (rcN (rgV S r)) ∧ gL (recN σ S i n) 140 (60 * i + 6 * r + 1) = jM (rcN (rgV S r)) ∧ gL (recN σ S i n) 140 (60 * i + 6 * r + 2) = jA (rcN (rgV S r)) ∧ gL (recN σ S i n) 140 (60 * i + 6 * r + 3) = jB (rcN (rgV S r)) ∧ gL (recN σ S i n) 140 (60 * i + 6 * r + 4) = jC (rcN (rgV S r)) ∧ gL (recN σ S i n) 140 (60 * i + 6 * r + 5) = jD (rcN (rgV S r))) ∧ gI (recN σ S i n) 141 (40 * i + 4 * r) = vk (rgV S r) ∧ gI (recN σ S i n) 141 (40 * i + 4 * r + 1) = vo (rgV S r) ∧ gI (recN σ S i n) 141 (40 * i + 4 * r + 2) = vw (rgV S r) ∧ gI (recN σ S i n) 141 (40 * i + 4 * r + 3) = vr (rgV S r) := by
    intro n
    induction n with
    | zero =>
      intro _
      refine ⟨?_, fun r hr => absurd hr (Nat.not_lt_zero _)⟩
      show gI (sI σ 139 i 1) 139 i = 1
      rw [gI_sI, if_pos ⟨rfl, rfl⟩]
    | succ n ih =>
      intro h
      obtain ⟨i1, i2⟩ := ih (by omega)
      refine ⟨?_, fun r hr => ?_⟩
      · show gI (recS (recN σ S i n) i n (rgV S n)) 139 i = 1
        rw [rs_I (by omega)]
        exact i1
      · by_cases e : r = n
        · subst e
          exact rs_self
        · obtain ⟨⟨a1, a2, a3, a4, a5, a6⟩, b1, b2, b3, b4⟩ := i2 r (by omega)
          show (gL (recS (recN σ S i n) i n (rgV S n)) 140 (60 * i + 6 * r) = _ ∧ gL (recS (recN σ S i n) i n (rgV S n)) 140 (60 * i + 6 * r + 1) = _ ∧ gL (recS (recN σ S i n) i n (rgV S n)) 140 (60 * i + 6 * r + 2) = _ ∧ gL (recS (recN σ S i n) i n (rgV S n)) 140 (60 * i + 6 * r + 3) = _ ∧ gL (recS (recN σ S i n) i n (rgV S n)) 140 (60 * i + 6 * r + 4) = _ ∧ gL (recS (recN σ S i n) i n (rgV S n)) 140 (60 * i + 6 * r + 5) = _) ∧ gI (recS (recN σ S i n) i n (rgV S n)) 141 (40 * i + 4 * r) = _ ∧ gI (recS (recN σ S i n) i n (rgV S n)) 141 (40 * i + 4 * r + 1) = _ ∧ gI (recS (recN σ S i n) i n (rgV S n)) 141 (40 * i + 4 * r + 2) = _ ∧ gI (recS (recN σ S i n) i n (rgV S n)) 141 (40 * i + 4 * r + 3) = _
          rw [rs_L (by omega), rs_L (by omega), rs_L (by omega), rs_L (by omega), rs_L (by omega), rs_L (by omega), rs_I (by omega), rs_I (by omega), rs_I (by omega), rs_I (by omega)]
          exact ⟨⟨a1, a2, a3, a4, a5, a6⟩, b1, b2, b3, b4⟩
  exact key 10 (Nat.le_refl _)
theorem L490w {i r q : Nat} (hi : i < 200) (hr : r < 10) (hq : q < 6) : w32 (w32 (w32 (60 * (i : Int)) + w32 (6 * (r : Int))) + (q : Int)) = ((60 * i + 6 * r + q : Nat) : Int) := by
  rw [w32_i (x := 60 * (i : Int)) (by omega) (by omega), w32_i (x := 6 * (r : Int)) (by omega) (by omega), w32_i (x := 60 * (i : Int) + 6 * (r : Int)) (by omega) (by omega), w32_i (by omega) (by omega)]
  omega
theorem L490v {i r q : Nat} (hi : i < 200) (hr : r < 10) (hq : q < 6) : w32 (w32 (w32 (40 * (i : Int)) + w32 (4 * (r : Int))) + (q : Int)) = ((40 * i + 4 * r + q : Nat) : Int) := by
  rw [w32_i (x := 40 * (i : Int)) (by omega) (by omega), w32_i (x := 4 * (r : Int)) (by omega) (by omega), w32_i (x := 40 * (i : Int) + 4 * (r : Int)) (by omega) (by omega), w32_i (by omega) (by omega)]
  omega
theorem L490a {i r : Nat} (hi : i < 200) (hr : r < 10) : w32 (w32 (60 * (i : Int)) + w32 (6 * (r : Int))) = ((60 * i + 6 * r : Nat) : Int) := by
  rw [w32_i (x := 60 * (i : Int)) (by omega) (by omega), w32_i (x := 6 * (r : Int)) (by omega) (by omega), w32_i (by omega) (by omega)]
  omega
theorem L490b {i r : Nat} (hi : i < 200) (hr : r < 10) : w32 (w32 (40 * (i : Int)) + w32 (4 * (r : Int))) = ((40 * i + 4 * r : Nat) : Int) := by
  rw [w32_i (x := 40 * (i : Int)) (by omega) (by omega), w32_i (x := 4 * (r : Int)) (by omega) (by omega), w32_i (by omega) (by omega)]
  omega
theorem L490c {a q : Nat} (ha : a < 20000) (hq : q < 6) : w32 ((a : Int) + (q : Int)) = ((a + q : Nat) : Int) := by
  rw [w32_i (by omega) (by omega)]
  omega
theorem L490d {p r : Nat} (hp : p < 100) (hr : r < 100) : w32 ((p : Int) + (r : Int)) = ((p + r : Nat) : Int) := by
  rw [w32_i (by omega) (by omega)]
  omega
theorem T490 (hJ : J0 σ S) (hF : 1 ≤ sF S ∧ sF S ≤ 4) (hi : i < 200) : MM 490 [mR (some 80), mI (i : Int)] σ = some (none, recN σ S i 10) := by
  have b0 : 0 ≤ (i : Int) ∧ (i : Int) < 200 := by omega
  have g123 : gI (sI σ 139 i 1) 123 0 = (sF S : Int) := by rw [gI_sI, if_neg (by omega)]; exact hJ.1
  have ep : w32 (26 * w32 ((sF S : Int) - 1)) = ((26 * (sF S - 1) : Nat) : Int) := by
    rw [w32_i (x := (sF S : Int) - 1) (by omega) (by omega), w32_i (by omega) (by omega)]
    omega
  have pb : 26 * (sF S - 1) + 26 ≤ 104 := by omega
  have vals : ∀ r n, r < 10 → n ≤ 10 → aV (recN σ S i n) (26 * (sF S - 1) + r) = rgV S r := fun r n hr hn => by
    rw [rc_V hn]
    exact at_nv hJ hF (by omega)
  have s21 : MM 490 [mR (some 80), mI (i : Int)] σ = RR (lkB tb490) (B490_21, [some (mR (some 80)), some (mI (i : Int)), some (mI ((26 * (sF S - 1) : Nat) : Int)), some (mI ((0 : Nat) : Int)), none, none, none, none], [], recN σ S i 0) := by
    show _ = RR (lkB tb490) (B490_21, [some (mR (some 80)), some (mI (i : Int)), some (mI ((26 * (sF S - 1) : Nat) : Int)), some (mI 0), none, none, none, none], [], sI σ 139 i 1)
    simp only [M490, e490_0, Option.getD_some, Option.bind_some, Option.toList_some, Option.toList_none, List.cons_append, List.nil_append, and_self, and_true, true_and, false_and, and_false, ite_self, not_true_eq_false, not_false_eq_true, reduceIte, Nat.reduceEqDiff, ab_I, ab_L, ab_R, ao_I, ao_L, ao_R, gL_sL, gI_sI, gR_sR, gI_sL, gI_sR, gL_sI, gL_sR, gR_sI, gR_sL, g_139, g_123, b0.1, b0.2, Int.reduceLT, Int.reduceLE, Int.toNat_natCast, show (1 : Int) % 2 = 1 from rfl, show (0 : Int).toNat = 0 from rfl, hJ.1, ep]
  rw [s21]
  clear ep s21
  have hp : 26 * (sF S - 1) < 100 := by omega
  generalize ev : 26 * (sF S - 1) = p at *
  have step : ∀ r : Nat, r < 10 → RR (lkB tb490) (B490_21, [some (mR (some 80)), some (mI (i : Int)), some (mI (p : Int)), some (mI ((r + 1 : Nat) : Int)), none, none, none, none], [], recN σ S i (r + 1)) = some (none, recN σ S i 10) → RR (lkB tb490) (B490_21, [some (mR (some 80)), some (mI (i : Int)), some (mI (p : Int)), some (mI (r : Int)), none, none, none, none], [], recN σ S i r) = some (none, recN σ S i 10) := by
    intro r hr ih
    have v := vals r r hr (by omega)
    have x8 : gI (recN σ S i r) 118 (p + r) = vk (rgV S r) := by rw [q118, v]
    have x9 : gI (recN σ S i r) 119 (p + r) = vo (rgV S r) := by rw [q119, v]
    have x0 : gI (recN σ S i r) 120 (p + r) = vw (rgV S r) := by rw [q120, v]
    have x2 : gI (recN σ S i r) 122 (p + r) = vr (rgV S r) := by rw [q122, v]
    have y2 : gL (recN σ S i r) 112 (p + r) = jV (vn (rgV S r)) := by rw [q112, v]
    have y3 : gL (recN σ S i r) 113 (p + r) = jM (vn (rgV S r)) := by rw [q113, v]
    have y4 : gL (recN σ S i r) 114 (p + r) = jA (vn (rgV S r)) := by rw [q114, v]
    have y5 : gL (recN σ S i r) 115 (p + r) = jB (vn (rgV S r)) := by rw [q115, v]
    have y6 : gL (recN σ S i r) 116 (p + r) = jC (vn (rgV S r)) := by rw [q116, v]
    have y7 : gL (recN σ S i r) 117 (p + r) = jD (vn (rgV S r)) := by rw [q117, v]
    have e1 : recN σ S i (r + 1) = recS (recN σ S i r) i r (rgV S r) := rfl
    rw [e1] at ih
    unfold recS at ih
    generalize recN σ S i r = ρ at *
    generalize rgV S r = u at *
    have n10 : ¬ 10 ≤ (r : Int) := by omega
    have c1 : 0 ≤ ((p + r : Nat) : Int) ∧ ((p + r : Nat) : Int) < 32664 := by omega
    have d0 : 0 ≤ ((60 * i + 6 * r : Nat) : Int) ∧ ((60 * i + 6 * r : Nat) : Int) < 12000 := by omega
    have d1 : 0 ≤ ((60 * i + 6 * r + 1 : Nat) : Int) ∧ ((60 * i + 6 * r + 1 : Nat) : Int) < 12000 := by omega
    have d2 : 0 ≤ ((60 * i + 6 * r + 2 : Nat) : Int) ∧ ((60 * i + 6 * r + 2 : Nat) : Int) < 12000 := by omega
    have d3 : 0 ≤ ((60 * i + 6 * r + 3 : Nat) : Int) ∧ ((60 * i + 6 * r + 3 : Nat) : Int) < 12000 := by omega
    have d4 : 0 ≤ ((60 * i + 6 * r + 4 : Nat) : Int) ∧ ((60 * i + 6 * r + 4 : Nat) : Int) < 12000 := by omega
    have d5 : 0 ≤ ((60 * i + 6 * r + 5 : Nat) : Int) ∧ ((60 * i + 6 * r + 5 : Nat) : Int) < 12000 := by omega
    have f0 : 0 ≤ ((40 * i + 4 * r : Nat) : Int) ∧ ((40 * i + 4 * r : Nat) : Int) < 8000 := by omega
    have f1 : 0 ≤ ((40 * i + 4 * r + 1 : Nat) : Int) ∧ ((40 * i + 4 * r + 1 : Nat) : Int) < 8000 := by omega
    have f2 : 0 ≤ ((40 * i + 4 * r + 2 : Nat) : Int) ∧ ((40 * i + 4 * r + 2 : Nat) : Int) < 8000 := by omega
    have f3 : 0 ≤ ((40 * i + 4 * r + 3 : Nat) : Int) ∧ ((40 * i + 4 * r + 3 : Nat) : Int) < 8000 := by omega
    have hA : 60 * i + 6 * r < 20000 := by omega
    have hC : 40 * i + 4 * r < 20000 := by omega
    have hD : p + r < 20000 := by omega
    have hr6 : r < 100000 := by omega
    have wp : w32 ((p : Int) + (r : Int)) = ((p + r : Nat) : Int) := L490d hp (by omega)
    have wa := L490a hi hr
    have wb := L490b hi hr
    have w61 : w32 (((60 * i + 6 * r : Nat) : Int) + 1) = ((60 * i + 6 * r + 1 : Nat) : Int) := L490c (q := 1) hA (by decide)
    have w62 : w32 (((60 * i + 6 * r : Nat) : Int) + 2) = ((60 * i + 6 * r + 2 : Nat) : Int) := L490c (q := 2) hA (by decide)
    have w63 : w32 (((60 * i + 6 * r : Nat) : Int) + 3) = ((60 * i + 6 * r + 3 : Nat) : Int) := L490c (q := 3) hA (by decide)
    have w64 : w32 (((60 * i + 6 * r : Nat) : Int) + 4) = ((60 * i + 6 * r + 4 : Nat) : Int) := L490c (q := 4) hA (by decide)
    have w65 : w32 (((60 * i + 6 * r : Nat) : Int) + 5) = ((60 * i + 6 * r + 5 : Nat) : Int) := L490c (q := 5) hA (by decide)
    have w41 : w32 (((40 * i + 4 * r : Nat) : Int) + 1) = ((40 * i + 4 * r + 1 : Nat) : Int) := L490c (q := 1) hC (by decide)
    have w42 : w32 (((40 * i + 4 * r : Nat) : Int) + 2) = ((40 * i + 4 * r + 2 : Nat) : Int) := L490c (q := 2) hC (by decide)
    have w43 : w32 (((40 * i + 4 * r : Nat) : Int) + 3) = ((40 * i + 4 * r + 3 : Nat) : Int) := L490c (q := 3) hC (by decide)
    have w3 := w32_s hr6
    generalize 60 * i + 6 * r = A at *
    generalize 40 * i + 4 * r = C at *
    generalize p + r = D at *
    have fin : ∀ x4 x5 x6 x7 : Int, ∀ ρ' : MS, RR (lkB tb490) (B490_21, [some (mR (some 80)), some (mI (i : Int)), some (mI (p : Int)), some (mI ((r + 1 : Nat) : Int)), none, none, none, none], [], ρ') = some (none, recN σ S i 10) → RR (lkB tb490) (B490_21, [some (mR (some 80)), some (mI (i : Int)), some (mI (p : Int)), some (mI ((r + 1 : Nat) : Int)), some (mI x4), some (mI x5), some (mI x6), some (mI x7)], [], ρ') = some (none, recN σ S i 10) := fun x4 x5 x6 x7 ρ' h => RR_q h (by repeat (first | exact lq_nil | refine lq_cons (Or.inr rfl) ?_ | refine lq_cons (Or.inl rfl) ?_))
    have s94 : RR (lkB tb490) (B490_21, [some (mR (some 80)), some (mI (i : Int)), some (mI (p : Int)), some (mI (r : Int)), none, none, none, none], [], ρ) = RR (lkB tb490) (B490_94, [some (mR (some 80)), some (mI (i : Int)), some (mI (p : Int)), some (mI (r : Int)), some (mI (D : Int)), some (mI (A : Int)), none, none], [mI (b2 (vk u = 1 ∨ vk u = 5 ∨ vk u = 7 ∨ vk u = 9))], ρ) := by
      rw [e490_21]
      by_cases k1 : vk u = 1
      · rw [b2_yes (p := vk u = 1 ∨ vk u = 5 ∨ vk u = 7 ∨ vk u = 9) (Or.inl k1)]
        simp only [e490_89, Option.getD_some, Option.bind_some, Option.toList_some, Option.toList_none, List.cons_append, List.nil_append, and_self, and_true, true_and, false_and, and_false, ite_self, not_true_eq_false, not_false_eq_true, reduceIte, Nat.reduceEqDiff, ab_I, ab_L, ab_R, ao_I, ao_L, ao_R, gL_sL, gI_sI, gR_sR, gI_sL, gI_sR, gL_sI, gL_sR, gR_sI, gR_sL, n10, g_118, wp, c1.1, c1.2, Int.toNat_natCast, x8, eq_true k1, wa]
      · by_cases k5 : vk u = 5
        · rw [b2_yes (p := vk u = 1 ∨ vk u = 5 ∨ vk u = 7 ∨ vk u = 9) (Or.inr (Or.inl k5))]
          simp only [e490_89, Option.getD_some, Option.bind_some, Option.toList_some, Option.toList_none, List.cons_append, List.nil_append, and_self, and_true, true_and, false_and, and_false, ite_self, not_true_eq_false, not_false_eq_true, reduceIte, Nat.reduceEqDiff, ab_I, ab_L, ab_R, ao_I, ao_L, ao_R, gL_sL, gI_sI, gR_sR, gI_sL, gI_sR, gL_sI, gL_sR, gR_sI, gR_sL, n10, g_118, wp, c1.1, c1.2, Int.toNat_natCast, x8, k1, eq_true k5, wa]
        · by_cases k7 : vk u = 7
          · rw [b2_yes (p := vk u = 1 ∨ vk u = 5 ∨ vk u = 7 ∨ vk u = 9) (Or.inr (Or.inr (Or.inl k7)))]
            simp only [e490_89, Option.getD_some, Option.bind_some, Option.toList_some, Option.toList_none, List.cons_append, List.nil_append, and_self, and_true, true_and, false_and, and_false, ite_self, not_true_eq_false, not_false_eq_true, reduceIte, Nat.reduceEqDiff, ab_I, ab_L, ab_R, ao_I, ao_L, ao_R, gL_sL, gI_sI, gR_sR, gI_sL, gI_sR, gL_sI, gL_sR, gR_sI, gR_sL, n10, g_118, wp, c1.1, c1.2, Int.toNat_natCast, x8, k1, k5, eq_true k7, wa]
          · by_cases k9 : vk u = 9
            · rw [b2_yes (p := vk u = 1 ∨ vk u = 5 ∨ vk u = 7 ∨ vk u = 9) (Or.inr (Or.inr (Or.inr k9)))]
              simp only [e490_89, Option.getD_some, Option.bind_some, Option.toList_some, Option.toList_none, List.cons_append, List.nil_append, and_self, and_true, true_and, false_and, and_false, ite_self, not_true_eq_false, not_false_eq_true, reduceIte, Nat.reduceEqDiff, ab_I, ab_L, ab_R, ao_I, ao_L, ao_R, gL_sL, gI_sI, gR_sR, gI_sL, gI_sR, gL_sI, gL_sR, gR_sI, gR_sL, n10, g_118, wp, c1.1, c1.2, Int.toNat_natCast, x8, k1, k5, k7, eq_true k9, wa]
            · rw [b2_no (p := vk u = 1 ∨ vk u = 5 ∨ vk u = 7 ∨ vk u = 9) (fun z => z.elim k1 (fun z => z.elim k5 (fun z => z.elim k7 k9)))]
              simp only [Option.getD_some, Option.bind_some, Option.toList_some, Option.toList_none, List.cons_append, List.nil_append, and_self, and_true, true_and, false_and, and_false, ite_self, not_true_eq_false, not_false_eq_true, reduceIte, Nat.reduceEqDiff, ab_I, ab_L, ab_R, ao_I, ao_L, ao_R, gL_sL, gI_sI, gR_sR, gI_sL, gI_sR, gL_sI, gL_sR, gR_sI, gR_sL, n10, g_118, wp, c1.1, c1.2, Int.toNat_natCast, x8, k1, k5, k7, k9, wa]
    rw [s94]
    by_cases kk : vk u = 1 ∨ vk u = 5 ∨ vk u = 7 ∨ vk u = 9
    · have en : rcN u = vn u := if_pos kk
      rw [en] at ih
      rw [b2_yes kk]
      simp only [e490_94, e490_118, e490_143, e490_168, e490_193, e490_218, e490_243, e490_284, Option.getD_some, Option.bind_some, Option.toList_some, Option.toList_none, List.cons_append, List.nil_append, and_self, and_true, true_and, false_and, and_false, ite_self, not_true_eq_false, not_false_eq_true, reduceIte, Nat.reduceEqDiff, ab_I, ab_L, ab_R, ao_I, ao_L, ao_R, gL_sL, gI_sI, gR_sR, gI_sL, gI_sR, gL_sI, gL_sR, gR_sI, gR_sL, oneI, g_112, g_113, g_114, g_115, g_116, g_117, g_118, g_119, g_120, g_122, g_140, g_141, c1.1, c1.2, d0.1, d0.2, d1.1, d1.2, d2.1, d2.2, d3.1, d3.2, d4.1, d4.2, d5.1, d5.2, f0.1, f0.2, f1.1, f1.2, f2.1, f2.2, f3.1, f3.2, Int.toNat_natCast, x8, x9, x0, x2, y2, y3, y4, y5, y6, y7, w61, w62, w63, w64, w65, wb, w41, w42, w43, w3]
      exact fin _ _ _ _ _ ih
    · have en : rcN u = (0#64, 0#64, 0#64, 0#64, 0#64, 0#64) := if_neg kk
      rw [en] at ih
      rw [b2_no kk]
      simp only [e490_94, e490_118, e490_143, e490_168, e490_193, e490_218, e490_243, e490_284, Option.getD_some, Option.bind_some, Option.toList_some, Option.toList_none, List.cons_append, List.nil_append, and_self, and_true, true_and, false_and, and_false, ite_self, not_true_eq_false, not_false_eq_true, reduceIte, Nat.reduceEqDiff, ab_I, ab_L, ab_R, ao_I, ao_L, ao_R, gL_sL, gI_sI, gR_sR, gI_sL, gI_sR, gL_sI, gL_sR, gR_sI, gR_sL, g_118, g_119, g_120, g_122, g_140, g_141, c1.1, c1.2, d0.1, d0.2, d1.1, d1.2, d2.1, d2.2, d3.1, d3.2, d4.1, d4.2, d5.1, d5.2, f0.1, f0.2, f1.1, f1.2, f2.1, f2.2, f3.1, f3.2, Int.toNat_natCast, x8, x9, x0, x2, w61, w62, w63, w64, w65, wb, w41, w42, w43, w3]
      exact fin _ _ _ _ _ ih
  have l : RR (lkB tb490) (B490_21, [some (mR (some 80)), some (mI (i : Int)), some (mI (p : Int)), some (mI ((10 : Nat) : Int)), none, none, none, none], [], recN σ S i 10) = some (none, recN σ S i 10) := by
    rw [e490_21, if_pos (by decide)]
  exact step 0 (by decide) (step 1 (by decide) (step 2 (by decide) (step 3 (by decide) (step 4 (by decide) (step 5 (by decide) (step 6 (by decide) (step 7 (by decide) (step 8 (by decide) (step 9 (by decide) l)))))))))
end REM
