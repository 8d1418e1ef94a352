/-! ===== the class's plain code: an operation of a run ===== -/
/-- a slot whose plain code lies in K, N operations -/
def cdC (σ : MS) (s K N : Nat) : Prop := (gI σ 71 7 = (s : Int) ∧ s < 8) ∧ gR σ 73 s = some K ∧ kd σ K = (3, 4800) ∧ gI σ 74 s = (N : Int) ∧ N ≤ 1200
/-- the operation at place x -/
def opC (σ : MS) (K x : Nat) (o a b c : Int) : Prop := gI σ K (4 * x) = o ∧ gI σ K (4 * x + 1) = a ∧ gI σ K (4 * x + 2) = b ∧ gI σ K (4 * x + 3) = c
/-- one further; a step is told -/
def advC (σ : MS) (x : Nat) (fl : Bool) : MS := if fl = true then sL (sI σ 71 8 ((x + 1 : Nat) : Int)) 71 16 (gL σ 71 16 + 1#64) else sI σ 71 8 ((x + 1 : Nat) : Int)
section CMST
variable {σ τ ρ υ ω : MS} {w w2 X Y : B64} {m n f i j s t N K P Q x : Nat} {a b c o n' y : Int} {fl : Bool}
theorem iAnd16 (h0 : 0 ≤ o) (h1 : o < 131072) : iAnd o 65536 = if o < 65536 then 0 else 65536 := by
  obtain ⟨n, hn⟩ : ∃ n : Nat, o = (n : Int) := ⟨o.toNat, by omega⟩
  have e1 : (b32 o).toNat = n := by
    rw [b32_nat]
    omega
  have e2 : (b32 65536).toNat = 65536 := rfl
  have e3 : n &&& 65536 = (n.testBit 16).toNat * 65536 := by
    refine Nat.eq_of_testBit_eq fun i => ?_
    rw [Nat.testBit_and, show (65536 : Nat) = 2 ^ 16 from rfl, Nat.testBit_two_pow]
    by_cases c : 16 = i
    · rw [← c, decide_eq_true rfl, Bool.and_true]
      cases n.testBit 16
      · rfl
      · rfl
    · rw [decide_eq_false c, Bool.and_false]
      cases n.testBit 16
      · exact (Nat.zero_testBit i).symm
      · show false = (1 * 2 ^ 16).testBit i
        rw [Nat.one_mul, Nat.testBit_two_pow, decide_eq_false c]
  by_cases c : o < 65536
  · have t : n.testBit 16 = false := Nat.testBit_lt_two_pow (by show n < 65536; omega)
    rw [t] at e3
    rw [if_pos c]
    exact iAnd_nat (n := 0) (by rw [e1, e2, e3]; rfl) (by decide)
  · have t : n.testBit 16 = true := by
      rw [Nat.testBit_eq_decide_div_mod_eq]
      refine decide_eq_true ?_
      show n / 65536 % 2 = 1
      omega
    rw [t] at e3
    rw [if_neg c]
    exact iAnd_nat (n := 65536) (by rw [e1, e2, e3]; rfl) (by decide)
theorem adv_I {k z : Nat} (h : ¬ (k = 71 ∧ z = 8)) : gI (advC σ x fl) k z = gI σ k z := by
  unfold advC
  cases fl
  · show gI (sI σ 71 8 _) k z = _
    rw [gI_sI, if_neg h]
  · show gI (sL (sI σ 71 8 _) 71 16 _) k z = _
    rw [gI_sL, gI_sI, if_neg h]
theorem adv_8 : gI (advC σ x fl) 71 8 = ((x + 1 : Nat) : Int) := by
  unfold advC
  cases fl
  · show gI (sI σ 71 8 _) 71 8 = _
    rw [gI_sI, if_pos ⟨rfl, rfl⟩]
  · show gI (sL (sI σ 71 8 _) 71 16 _) 71 8 = _
    rw [gI_sL, gI_sI, if_pos ⟨rfl, rfl⟩]
theorem adv_L {k z : Nat} (h : ¬ (k = 71 ∧ z = 16)) : gL (advC σ x fl) k z = gL σ k z := by
  unfold advC
  cases fl
  · rfl
  · show gL (sL (sI σ 71 8 _) 71 16 _) k z = _
    rw [gL_sL, if_neg h]
    rfl
theorem adv_16 : gL (advC σ x fl) 71 16 = gL σ 71 16 + (if fl = true then 1#64 else 0#64) := by
  unfold advC
  cases fl
  · show gL σ 71 16 = gL σ 71 16 + 0#64
    rw [BitVec.add_zero]
  · show gL (sL (sI σ 71 8 _) 71 16 _) 71 16 = _
    rw [gL_sL, if_pos ⟨rfl, rfl⟩]
    rfl
theorem adv_2 : (advC σ x fl).2.2 = σ.2.2 := by
  unfold advC
  cases fl
  · rfl
  · rfl
theorem w4x (h : x < 1200) : w32 ((x : Int) * 4) = ((4 * x : Nat) : Int) ∧ w32 (((4 * x : Nat) : Int) + 1) = ((4 * x + 1 : Nat) : Int) ∧ w32 (((4 * x : Nat) : Int) + 2) = ((4 * x + 2 : Nat) : Int) ∧ w32 (((4 * x : Nat) : Int) + 3) = ((4 * x + 3 : Nat) : Int) ∧ w32 ((x : Int) + 1) = ((x + 1 : Nat) : Int) := by
  refine ⟨?_, ?_, ?_, ?_, ?_⟩
  · rw [w32_i (by omega) (by omega)]
    omega
  · rw [w32_i (by omega) (by omega)]
    rfl
  · rw [w32_i (by omega) (by omega)]
    rfl
  · rw [w32_i (by omega) (by omega)]
    rfl
  · rw [w32_i (by omega) (by omega)]
    rfl
theorem b4x (h : x < 1200) : (0 ≤ ((4 * x : Nat) : Int) ∧ ((4 * x : Nat) : Int) < ((4800 : Nat) : Int)) ∧ (0 ≤ ((4 * x + 1 : Nat) : Int) ∧ ((4 * x + 1 : Nat) : Int) < ((4800 : Nat) : Int)) ∧ (0 ≤ ((4 * x + 2 : Nat) : Int) ∧ ((4 * x + 2 : Nat) : Int) < ((4800 : Nat) : Int)) ∧ (0 ≤ ((4 * x + 3 : Nat) : Int) ∧ ((4 * x + 3 : Nat) : Int) < ((4800 : Nat) : Int)) := by
  omega
theorem opm (o0 : 0 ≤ o) (o1 : o < 65536) : iAnd (o + (if fl = true then 65536 else 0)) 65536 = (if fl = true then 65536 else 0) ∧ iAnd (o + (if fl = true then 65536 else 0)) 255 = o % 256 ∧ iAnd (iShr (o + (if fl = true then 65536 else 0)) 8) 15 = o / 256 % 16 := by
  cases fl
  · rw [if_neg (by decide), Int.add_zero]
    refine ⟨?_, iAnd255 _, ?_⟩
    · rw [iAnd16 o0 (by omega), if_pos o1]
    · rw [show iShr o 8 = o / 256 from rfl, iAnd15]
  · rw [if_pos rfl]
    refine ⟨?_, ?_, ?_⟩
    · rw [iAnd16 (by omega) (by omega), if_neg (by omega)]
    · rw [iAnd255]
      omega
    · rw [show iShr (o + 65536) 8 = (o + 65536) / 256 from rfl, iAnd15]
      omega
theorem L128 (C : cdC σ s K N) (h8 : gI σ 71 8 = (x : Int)) (hx : x < N) (o0 : 0 ≤ o) (o1 : o < 65536) (O : opC σ K x (o + (if fl = true then 65536 else 0)) a b c) : MM 128 [mR (some 72), mR (some 71)] σ = RR (lkB tb128) (B128_104, [some (mR (some 72)), some (mR (some 71)), some (mR (some K)), some (mI ((4 * x : Nat) : Int)), some (mI (o + (if fl = true then 65536 else 0))), some (mI a), some (mI b), some (mI c), none, none], [], advC σ x fl) := by
  have l0 : ¬ (x : Int) < 0 := Int.not_lt.mpr (Int.natCast_nonneg x)
  have l1 : (x : Int) < (N : Int) := Int.ofNat_lt.mpr hx
  obtain ⟨⟨c1, c2⟩, c3, c4, c5, c6⟩ := C
  obtain ⟨p0, p1, p2, p3⟩ := O
  have x2 : x < 1200 := by omega
  obtain ⟨w0, w1, w2, w3, w4⟩ := w4x x2
  obtain ⟨b0, b1, b2, b3⟩ := b4x x2
  have b8 : 0 ≤ (s : Int) ∧ (s : Int) < 8 := by omega
  have q : ∀ i : Int, (Option.isSome (some K) = true ∧ ab σ 3 K i) = (0 ≤ i ∧ i < ((4800 : Nat) : Int)) := fun i => gdK c4
  have ns : ¬ Option.isSome (some K) = false := by intro z; cases z
  rw [M128, e128_0, c1, if_pos (g_73 (σ := σ) (i := (s : Int)) ▸ b8), Int.toNat_natCast, c3, if_neg ns, h8, if_neg l0, if_pos (g_74 (σ := σ) (i := (s : Int)) ▸ b8), c5, if_pos l1, Option.getD_some, w0, if_pos (q _ ▸ b0), w1, if_pos (q _ ▸ b1), w2, if_pos (q _ ▸ b2), w3, if_pos (q _ ▸ b3), w4, Int.toNat_natCast, Int.toNat_natCast, Int.toNat_natCast, Int.toNat_natCast, p0, p1, p2, p3, (opm o0 o1).1]
  unfold advC
  cases fl
  · have e : (if false = true then (65536 : Int) else 0) = 0 := rfl
    rw [e, if_pos rfl, if_neg (by decide)]
  · have e : (if true = true then (65536 : Int) else 0) = 65536 := rfl
    rw [e, if_neg (by decide), if_pos rfl]
    rfl
/-- one register -/
theorem T128r (C : cdC σ s K N) (h8 : gI σ 71 8 = (x : Int)) (hx : x < N) (O : opC σ K x (o + (if fl = true then 65536 else 0)) a b c) (h : rqok o a b c) : MM 128 [mR (some 72), mR (some 71)] σ = some (none, sL (advC σ x fl) 76 a.toNat (mqV o b c (fun r => gL σ 76 r))) := by
  have o0 := h.1.1
  have o1 : o < 65536 := by have := h.1.2; omega
  have om : o % 256 = o := by have := h.1.2; omega
  have o20 : ¬ 20 ≤ o := by have := h.1.2; omega
  have t := T130 (σ := advC σ x fl) (n' := o / 256 % 16) h
  rw [L128 C h8 hx o0 o1 O, e128_104, (opm o0 o1).2.1, om, if_neg o20, (opm o0 o1).2.2, t]
  simp only [Option.getD_some, Option.bind_some, Option.toList_some, Option.toList_none, List.cons_append, List.nil_append, and_self, and_true, true_and, false_and, and_false, ite_self, not_true_eq_false, not_false_eq_true, reduceIte, Nat.reduceEqDiff, ab_I, ab_L, ab_R, ao_I, ao_L, ao_R, gL_sL, gI_sI, gR_sR, gI_sL, gI_sR, gL_sI, gL_sR, gR_sI, gR_sL]
  rw [e128_143]
  have e : (fun r => gL (advC σ x fl) 76 r) = (fun r => gL σ 76 r) := funext fun r => adv_L (fun z => absurd z.1 (by decide))
  rw [e]
/-- a question -/
theorem T128c (C : cdC σ s K N) (h8 : gI σ 71 8 = (x : Int)) (hx : x < N) (O : opC σ K x (o + (if fl = true then 65536 else 0)) a b c) (h : 20 ≤ o ∧ o < 27) (hb : 0 ≤ b ∧ b < 16) (hc : 0 ≤ c ∧ c < 16) : MM 128 [mR (some 72), mR (some 71)] σ = some (none, if soV o (gL σ 76 b.toNat) (gL σ 76 c.toNat) = true then sI (advC σ x fl) 71 8 a else advC σ x fl) := by
  have o0 : 0 ≤ o := by omega
  have o1 : o < 65536 := by omega
  have om : o % 256 = o := by omega
  have o27 : ¬ 27 ≤ o := by omega
  have e : ∀ r, gL (advC σ x fl) 76 r = gL σ 76 r := fun r => adv_L (fun z => absurd z.1 (by decide))
  have B := g_76 (σ := advC σ x fl) (i := b)
  have D := g_76 (σ := advC σ x fl) (i := c)
  rw [L128 C h8 hx o0 o1 O, e128_104, (opm o0 o1).2.1, om, if_pos h.1, if_neg o27, if_pos (B ▸ hb), if_pos (D ▸ hc), T129, e, e]
  simp only [Option.getD_some, Option.bind_some, Option.toList_some, Option.toList_none, List.cons_append, List.nil_append, and_self, and_true, true_and, false_and, and_false, ite_self, not_true_eq_false, not_false_eq_true, reduceIte, Nat.reduceEqDiff, ab_I, ab_L, ab_R, ao_I, ao_L, ao_R, gL_sL, gI_sI, gR_sR, gI_sL, gI_sR, gL_sI, gL_sR, gR_sI, gR_sL]
  rw [e128_172]
  by_cases z : soV o (gL σ 76 b.toNat) (gL σ 76 c.toNat) = true
  · rw [if_pos z, if_pos z, if_neg (by decide)]
  · rw [if_neg z, if_neg z, if_pos rfl]
theorem T128g (C : cdC σ s K N) (h8 : gI σ 71 8 = (x : Int)) (hx : x < N) (O : opC σ K x (27 + (if fl = true then 65536 else 0)) a b c) : MM 128 [mR (some 72), mR (some 71)] σ = some (none, sI (advC σ x fl) 71 8 a) := by
  rw [L128 C h8 hx (by decide) (by decide) O, e128_104, (opm (by decide) (by decide)).2.1, show (27 : Int) % 256 = 27 from rfl, if_pos (by decide), if_pos (by decide), if_neg (by decide)]
theorem T128f (C : cdC σ s K N) (h8 : gI σ 71 8 = (x : Int)) (hx : x < N) (O : opC σ K x (28 + (if fl = true then 65536 else 0)) a b c) (t : MM 184 [mR (some 71), mI a] (advC σ x fl) = some (none, τ)) : MM 128 [mR (some 72), mR (some 71)] σ = some (none, τ) := by
  rw [L128 C h8 hx (by decide) (by decide) O, e128_104, (opm (by decide) (by decide)).2.1, show (28 : Int) % 256 = 28 from rfl, if_pos (by decide), if_pos (by decide), if_pos (by decide), if_neg (by decide), t]
  simp only [Option.getD_some, Option.bind_some, Option.toList_some, Option.toList_none, List.cons_append, List.nil_append, and_self, and_true, true_and, false_and, and_false, ite_self, not_true_eq_false, not_false_eq_true, reduceIte, Nat.reduceEqDiff, ab_I, ab_L, ab_R, ao_I, ao_L, ao_R, gL_sL, gI_sI, gR_sR, gI_sL, gI_sR, gL_sI, gL_sR, gR_sI, gR_sL]
  rw [e128_213]
theorem T128b (C : cdC σ s K N) (h8 : gI σ 71 8 = (x : Int)) (hx : x < N) (O : opC σ K x (29 + (if fl = true then 65536 else 0)) a b c) (t : MM 185 [mR (some 71)] (advC σ x fl) = some (none, τ)) : MM 128 [mR (some 72), mR (some 71)] σ = some (none, τ) := by
  rw [L128 C h8 hx (by decide) (by decide) O, e128_104, (opm (by decide) (by decide)).2.1, show (29 : Int) % 256 = 29 from rfl, if_pos (by decide), if_pos (by decide), if_pos (by decide), if_pos (by decide), if_neg (by decide), t]
  simp only [Option.getD_some, Option.bind_some, Option.toList_some, Option.toList_none, List.cons_append, List.nil_append, and_self, and_true, true_and, false_and, and_false, ite_self, not_true_eq_false, not_false_eq_true, reduceIte, Nat.reduceEqDiff, ab_I, ab_L, ab_R, ao_I, ao_L, ao_R, gL_sL, gI_sI, gR_sR, gI_sL, gI_sR, gL_sI, gL_sR, gR_sI, gR_sL]
  rw [e128_227]
theorem T128h (C : cdC σ s K N) (h8 : gI σ 71 8 = (x : Int)) (hx : x < N) (O : opC σ K x (30 + (if fl = true then 65536 else 0)) a b c) (t : MM 197 [mR (some 71), mI a] (advC σ x fl) = some (some (mL X), τ)) : MM 128 [mR (some 72), mR (some 71)] σ = some (none, sL τ 76 0 X) := by
  have A := g_76 (σ := τ) (i := 0)
  rw [L128 C h8 hx (by decide) (by decide) O, e128_104, (opm (by decide) (by decide)).2.1, show (30 : Int) % 256 = 30 from rfl, if_pos (by decide), if_pos (by decide), if_pos (by decide), if_pos (by decide), if_pos (by decide), t]
  simp only [Option.getD_some, Option.bind_some, Option.toList_some, Option.toList_none, List.cons_append, List.nil_append, and_self, and_true, true_and, false_and, and_false, ite_self, not_true_eq_false, not_false_eq_true, reduceIte, Nat.reduceEqDiff, ab_I, ab_L, ab_R, ao_I, ao_L, ao_R, gL_sL, gI_sI, gR_sR, gI_sL, gI_sR, gL_sI, gL_sR, gR_sI, gR_sL]
  rw [e128_241, Option.getD_some, if_pos (A ▸ ⟨by decide, by decide⟩)]
  rfl
theorem T128l (C : cdC σ s K N) (h8 : gI σ 71 8 = (x : Int)) (hx : x < N) (hn : n < 16) (O : opC σ K x (18 + 256 * (n : Int) + (if fl = true then 65536 else 0)) a b c) (ha : 0 ≤ a ∧ a < 16) (hb : 0 ≤ b ∧ b < 16) (t : MM 188 [mR (some 71), mL (gL σ 76 b.toNat + iL c), mI (n : Int)] (advC σ x fl) = some (some (mL X), τ)) : MM 128 [mR (some 72), mR (some 71)] σ = some (none, sL τ 76 a.toNat X) := by
  have A := g_76 (σ := τ) (i := a)
  have B := g_76 (σ := advC σ x fl) (i := b)
  have o0 : 0 ≤ 18 + 256 * (n : Int) := by omega
  have o1 : 18 + 256 * (n : Int) < 65536 := by omega
  have om : (18 + 256 * (n : Int)) % 256 = 18 := by omega
  have on : (18 + 256 * (n : Int)) / 256 % 16 = (n : Int) := by omega
  have e : ∀ r, gL (advC σ x fl) 76 r = gL σ 76 r := fun r => adv_L (fun z => absurd z.1 (by decide))
  rw [L128 C h8 hx o0 o1 O, e128_104, (opm o0 o1).2.1, (opm o0 o1).2.2, om, on, if_neg (by decide), M130, e130_0]
  simp only [show ¬ (18 : Int) = 0 by decide, show ¬ (18 : Int) = 1 by decide, show ¬ (18 : Int) = 2 by decide, show ¬ (18 : Int) = 3 by decide, show ¬ (18 : Int) = 4 by decide, show ¬ (18 : Int) = 5 by decide, show ¬ (18 : Int) = 6 by decide, show ¬ (18 : Int) = 7 by decide, show ¬ (18 : Int) = 8 by decide, show ¬ (18 : Int) = 9 by decide, show ¬ (18 : Int) = 10 by decide, show ¬ (18 : Int) = 11 by decide, show ¬ (18 : Int) = 12 by decide, show ¬ (18 : Int) = 13 by decide, show ¬ (18 : Int) = 14 by decide, show ¬ (18 : Int) = 15 by decide, show ¬ (18 : Int) = 16 by decide, show ¬ (18 : Int) = 17 by decide, if_false, if_true]
  rw [if_pos (B ▸ hb), e, t]
  simp only [Option.getD_some, Option.bind_some, Option.toList_some, Option.toList_none, List.cons_append, List.nil_append, and_self, and_true, true_and, false_and, and_false, ite_self, not_true_eq_false, not_false_eq_true, reduceIte, Nat.reduceEqDiff, ab_I, ab_L, ab_R, ao_I, ao_L, ao_R, gL_sL, gI_sI, gR_sR, gI_sL, gI_sR, gL_sI, gL_sR, gR_sI, gR_sL]
  rw [e130_200, Option.getD_some, if_pos (A ▸ ha)]
  simp only [Option.getD_some, Option.bind_some, Option.toList_some, Option.toList_none, List.cons_append, List.nil_append, and_self, and_true, true_and, false_and, and_false, ite_self, not_true_eq_false, not_false_eq_true, reduceIte, Nat.reduceEqDiff, ab_I, ab_L, ab_R, ao_I, ao_L, ao_R, gL_sL, gI_sI, gR_sR, gI_sL, gI_sR, gL_sI, gL_sR, gR_sI, gR_sL]
  rw [e128_143]
theorem T128s (C : cdC σ s K N) (h8 : gI σ 71 8 = (x : Int)) (hx : x < N) (hn : n < 16) (O : opC σ K x (19 + 256 * (n : Int) + (if fl = true then 65536 else 0)) a b c) (ha : 0 ≤ a ∧ a < 16) (hb : 0 ≤ b ∧ b < 16) (t : MM 189 [mR (some 71), mL (gL σ 76 a.toNat + iL c), mL (gL σ 76 b.toNat), mI (n : Int)] (advC σ x fl) = some (none, τ)) : MM 128 [mR (some 72), mR (some 71)] σ = some (none, τ) := by
  have A := g_76 (σ := advC σ x fl) (i := a)
  have B := g_76 (σ := advC σ x fl) (i := b)
  have o0 : 0 ≤ 19 + 256 * (n : Int) := by omega
  have o1 : 19 + 256 * (n : Int) < 65536 := by omega
  have om : (19 + 256 * (n : Int)) % 256 = 19 := by omega
  have on : (19 + 256 * (n : Int)) / 256 % 16 = (n : Int) := by omega
  have e : ∀ r, gL (advC σ x fl) 76 r = gL σ 76 r := fun r => adv_L (fun z => absurd z.1 (by decide))
  rw [L128 C h8 hx o0 o1 O, e128_104, (opm o0 o1).2.1, (opm o0 o1).2.2, om, on, if_neg (by decide), M130, e130_0]
  simp only [show ¬ (19 : Int) = 0 by decide, show ¬ (19 : Int) = 1 by decide, show ¬ (19 : Int) = 2 by decide, show ¬ (19 : Int) = 3 by decide, show ¬ (19 : Int) = 4 by decide, show ¬ (19 : Int) = 5 by decide, show ¬ (19 : Int) = 6 by decide, show ¬ (19 : Int) = 7 by decide, show ¬ (19 : Int) = 8 by decide, show ¬ (19 : Int) = 9 by decide, show ¬ (19 : Int) = 10 by decide, show ¬ (19 : Int) = 11 by decide, show ¬ (19 : Int) = 12 by decide, show ¬ (19 : Int) = 13 by decide, show ¬ (19 : Int) = 14 by decide, show ¬ (19 : Int) = 15 by decide, show ¬ (19 : Int) = 16 by decide, show ¬ (19 : Int) = 17 by decide, show ¬ (19 : Int) = 18 by decide, if_false, if_true]
  rw [if_pos (A ▸ ha), if_pos (B ▸ hb), e, e, t]
  simp only [Option.getD_some, Option.bind_some, Option.toList_some, Option.toList_none, List.cons_append, List.nil_append, and_self, and_true, true_and, false_and, and_false, ite_self, not_true_eq_false, not_false_eq_true, reduceIte, Nat.reduceEqDiff, ab_I, ab_L, ab_R, ao_I, ao_L, ao_R, gL_sL, gI_sI, gR_sR, gI_sL, gI_sR, gL_sI, gL_sR, gR_sI, gR_sL]
  rw [e130_222]
  simp only [Option.getD_some, Option.bind_some, Option.toList_some, Option.toList_none, List.cons_append, List.nil_append, and_self, and_true, true_and, false_and, and_false, ite_self, not_true_eq_false, not_false_eq_true, reduceIte, Nat.reduceEqDiff, ab_I, ab_L, ab_R, ao_I, ao_L, ao_R, gL_sL, gI_sI, gR_sR, gI_sL, gI_sR, gL_sI, gL_sR, gR_sI, gR_sL]
  rw [e128_143]
end CMST
