-- FILE 36a.jl3
/-! ===== whether bytes are there; the parts of stacks ===== -/
theorem ab98 {σ : MS} {i : Int} (h : 0 ≤ i ∧ i ≤ 7) : (Option.isSome (some 98) = true ∧ ab σ 3 98 i) = True := by
  rw [g_98]
  exact eq_true ⟨h.1, by omega⟩
set_option maxHeartbeats 2000000 in
theorem T503 {x y : Int} {n : Nat} {g : Nat} {t : Int} {E : EV} {σ : MS} (hx : inB x) (hm : mvs (aV σ x.toNat)) (hv : okV E g t (aV σ x.toNat)) (hE : EO σ E) (hr : vk (aV σ x.toNat) = 7 → 0 ≤ vr (aV σ x.toNat)) (hy : -32768 ≤ y ∧ y ≤ 32767) (hn : n ≤ 1000) : MM 503 [mR (some 80), mI x, mI y, mI (n : Int)] σ = some (some (mI (b2 (room E (aV σ x.toNat) y n))), if vk (aV σ x.toNat) = 3 then sI (sI σ 80 103 (vw (aV σ x.toNat))) 80 102 (vo (aV σ x.toNat) + y + 128) else σ) := by
  obtain ⟨v1, v2, v3, v4, v5, v6, v7, v8, v9, v10⟩ := hv
  have ho := v2 hm
  have ea : iL (gI σ 119 x.toNat) + iL y = iL (vo (aV σ x.toNat) + y) := iLa _ _
  have et : (iL (vo (aV σ x.toNat) + y)).toInt = vo (aV σ x.toNat) + y := iLt (by omega) (by omega)
  have en : w32 (-(n : Int)) = -(n : Int) := w32_i (by omega) (by omega)
  have en2 : (iL (-(n : Int))).toInt = -(n : Int) := iLt (by omega) (by omega)
  have i1 : (iL (-128)).toInt = -128 := by decide
  have el : lI (iL (vo (aV σ x.toNat) + y)) = vo (aV σ x.toNat) + y := lIi (by omega) (by omega)
  have e128 : w32 (vo (aV σ x.toNat) + y + 128) = vo (aV σ x.toNat) + y + 128 := w32_i (by omega) (by omega)
  have z0 : (BitVec.ofNat 64 0).toInt = 0 := rfl
  have uB : ∀ p : Prop, ∀ d : Decidable p, p → some (some (mI 1), σ) = some (some (mI (@b2 p d)), σ) := fun p d h => by rw [b2_yes h]
  have uN : ∀ p : Prop, ∀ d : Decidable p, ¬ p → some (some (mI 0), σ) = some (some (mI (@b2 p d)), σ) := fun p d h => by rw [b2_no h]
  by_cases k3 : vk (aV σ x.toNat) = 3
  · have k3' : gI σ 118 x.toNat = 3 := k3
    rw [if_pos k3]
    have rm : room E (aV σ x.toNat) y n ↔ (-128 ≤ vo (aV σ x.toNat) + y ∧ vo (aV σ x.toNat) + y ≤ -(n : Int)) := by
      unfold room
      rw [if_pos k3]
    rw [b2_c (e := inferInstance) rm]
    simp only [M503, e503_0, e503_65, Option.getD_some, Option.bind_some, Option.toList_some, Option.toList_none, List.cons_append, List.nil_append, and_self, and_true, true_and, false_and, and_false, ite_self, not_true_eq_false, not_false_eq_true, reduceIte, Nat.reduceEqDiff, ab_I, ab_L, ab_R, ao_I, ao_L, ao_R, gL_sL, gI_sI, gR_sR, gI_sL, gI_sR, gL_sI, gL_sR, gR_sI, gR_sL, g_98, g_114, g_115, g_118, g_119, g_120, g_122, hx.1, hx.2, k3', ea, et, en, en2, i1, el, e128]
    by_cases c1 : vo (aV σ x.toNat) + y < -128
    · rw [if_pos c1, b2_no (by omega)]
      rfl
    · rw [if_neg c1]
      by_cases c2 : -(n : Int) < vo (aV σ x.toNat) + y
      · rw [if_pos c2, b2_no (by omega)]
        rfl
      · rw [if_neg c2, b2_yes (by omega)]
        rfl
  · have k3' : ¬ gI σ 118 x.toNat = 3 := k3
    rw [if_neg k3]
    by_cases k7 : vk (aV σ x.toNat) = 7
    · have k7' : gI σ 118 x.toNat = 7 := k7
      have r0 := hr k7
      have r1 := v10 k7
      have er : (iL (gI σ 122 x.toNat)).toInt = vr (aV σ x.toNat) := iLt (by have : gI σ 122 x.toNat = vr (aV σ x.toNat) := rfl; omega) (by have : gI σ 122 x.toNat = vr (aV σ x.toNat) := rfl; omega)
      have es : (iL (vo (aV σ x.toNat) + y) + iL (n : Int)).toInt = vo (aV σ x.toNat) + y + n := by rw [iLa, iLt (by omega) (by omega)]
      have rm : room E (aV σ x.toNat) y n ↔ (0 ≤ vo (aV σ x.toNat) + y ∧ vo (aV σ x.toNat) + y + n ≤ vr (aV σ x.toNat)) := by
        unfold room
        rw [if_neg k3, if_pos k7]
      rw [b2_c (e := inferInstance) rm]
      simp only [M503, e503_0, e503_105, Option.getD_some, Option.bind_some, Option.toList_some, Option.toList_none, List.cons_append, List.nil_append, and_self, and_true, true_and, false_and, and_false, ite_self, not_true_eq_false, not_false_eq_true, reduceIte, Nat.reduceEqDiff, ab_I, ab_L, ab_R, ao_I, ao_L, ao_R, gL_sL, gI_sI, gR_sR, gI_sL, gI_sR, gL_sI, gL_sR, gR_sI, gR_sL, g_98, g_114, g_115, g_118, g_119, g_120, g_122, hx.1, hx.2, k7', ea, et, er, es, z0, Int.reduceEq]
      by_cases c1 : vo (aV σ x.toNat) + y < 0
      · rw [if_pos c1, b2_no (by omega)]
      · rw [if_neg c1]
        by_cases c2 : vr (aV σ x.toNat) < vo (aV σ x.toNat) + y + n
        · rw [if_pos c2, b2_no (by omega)]
        · rw [if_neg c2, b2_yes (by omega)]
    · have k7' : ¬ gI σ 118 x.toNat = 7 := k7
      have key : ∀ sz : Int, (0 ≤ sz ∧ sz ≤ 64) → RR (lkB tb503) (B503_137, [some (mR (some 80)), some (mI x), some (mI y), some (mI (n : Int)), some (mL (iL (vo (aV σ x.toNat) + y))), none, none], [mI sz], σ) = some (some (mI (b2 (0 ≤ (iL (vo (aV σ x.toNat) + y) + jA (vn (aV σ x.toNat))).toInt ∧ (iL (vo (aV σ x.toNat) + y) + jB (vn (aV σ x.toNat)) + iL (n : Int)).toInt ≤ sz))), σ) := fun sz hs => by
        have e1 : (iL sz).toInt = sz := iLt (by omega) (by omega)
        simp only [e503_137, e503_176, Option.getD_some, Option.bind_some, Option.toList_some, Option.toList_none, List.cons_append, List.nil_append, and_self, and_true, true_and, false_and, and_false, ite_self, not_true_eq_false, not_false_eq_true, reduceIte, Nat.reduceEqDiff, ab_I, ab_L, ab_R, ao_I, ao_L, ao_R, gL_sL, gI_sI, gR_sR, gI_sL, gI_sR, gL_sI, gL_sR, gR_sI, gR_sL, g_98, g_114, g_115, g_118, g_119, g_120, g_122, hx.1, hx.2, q114, q115, z0, e1]
        by_cases c1 : (iL (vo (aV σ x.toNat) + y) + jA (vn (aV σ x.toNat))).toInt < 0
        · rw [if_pos c1, b2_no (by omega)]
        · rw [if_neg c1]
          by_cases c2 : sz < (iL (vo (aV σ x.toNat) + y) + jB (vn (aV σ x.toNat)) + iL (n : Int)).toInt
          · rw [if_pos c2, b2_no (by omega)]
          · rw [if_neg c2, b2_yes (by omega)]
      by_cases k5 : vk (aV σ x.toNat) = 5
      · have k5' : gI σ 118 x.toNat = 5 := k5
        obtain ⟨w1, w2, w3⟩ := v5 (Or.inl k5)
        have w1' : 0 ≤ gI σ 120 x.toNat ∧ gI σ 120 x.toNat ≤ 7 := w1
        have es : gI σ 98 (gI σ 120 x.toNat).toNat = E.2.2 (vw (aV σ x.toNat)).toNat := (hE (gI σ 120 x.toNat).toNat (by omega)).2.1
        have g98 : 0 ≤ gI σ 120 x.toNat ∧ gI σ 120 x.toNat < 8 := ⟨w1'.1, by omega⟩
        have rm : room E (aV σ x.toNat) y n ↔ (0 ≤ (iL (vo (aV σ x.toNat) + y) + jA (vn (aV σ x.toNat))).toInt ∧ (iL (vo (aV σ x.toNat) + y) + jB (vn (aV σ x.toNat)) + iL (n : Int)).toInt ≤ E.2.2 (vw (aV σ x.toNat)).toNat) := by
          unfold room
          rw [if_neg k3, if_neg k7, if_pos k5]
          exact Iff.rfl
        rw [b2_c (e := inferInstance) rm]
        simp only [M503, e503_0, Option.getD_some, Option.bind_some, Option.toList_some, Option.toList_none, List.cons_append, List.nil_append, and_self, and_true, true_and, false_and, and_false, ite_self, not_true_eq_false, not_false_eq_true, reduceIte, Nat.reduceEqDiff, ab_I, ab_L, ab_R, ao_I, ao_L, ao_R, gL_sL, gI_sI, gR_sR, gI_sL, gI_sR, gL_sI, gL_sR, gR_sI, gR_sL, g_98, g_114, g_115, g_118, g_119, g_120, g_122, hx.1, hx.2, k5', ea, es, g98.1, g98.2, Int.reduceEq]
        exact key _ ⟨by omega, by omega⟩
      · have k5' : ¬ gI σ 118 x.toNat = 5 := k5
        have k9 : vk (aV σ x.toNat) = 9 := by rcases hm with k | k | k | k <;> first | exact absurd k (by assumption) | exact k
        have w := v9 (Or.inl k9)
        have rm : room E (aV σ x.toNat) y n ↔ (0 ≤ (iL (vo (aV σ x.toNat) + y) + jA (vn (aV σ x.toNat))).toInt ∧ (iL (vo (aV σ x.toNat) + y) + jB (vn (aV σ x.toNat)) + iL (n : Int)).toInt ≤ vw (aV σ x.toNat)) := by
          unfold room
          rw [if_neg k3, if_neg k7, if_neg k5]
          exact Iff.rfl
        rw [b2_c (e := inferInstance) rm]
        simp only [M503, e503_0, Option.getD_some, Option.bind_some, Option.toList_some, Option.toList_none, List.cons_append, List.nil_append, and_self, and_true, true_and, false_and, and_false, ite_self, not_true_eq_false, not_false_eq_true, reduceIte, Nat.reduceEqDiff, ab_I, ab_L, ab_R, ao_I, ao_L, ao_R, gL_sL, gI_sI, gR_sR, gI_sL, gI_sR, gL_sI, gL_sR, gR_sI, gR_sL, g_98, g_114, g_115, g_118, g_119, g_120, g_122, hx.1, hx.2, k3', k7', k5', ea]
        exact key _ ⟨by have : gI σ 120 x.toNat = vw (aV σ x.toNat) := rfl; omega, by have : gI σ 120 x.toNat = vw (aV σ x.toNat) := rfl; omega⟩
theorem T504 {b : Nat} {σ : MS} (h : 0 ≤ gI σ 80 103 ∧ gI σ 80 103 ≤ 3) (hb : b < 1000) : MM 504 [mR (some 80), mI (b : Int)] σ = some (some (mI ((26 * (gI σ 80 103).toNat + 10 + b / 8 : Nat) : Int)), σ) := by
  have e1 : w32 (26 * gI σ 80 103) = 26 * gI σ 80 103 := w32_i (by omega) (by omega)
  have e2 : w32 (26 * gI σ 80 103 + 10) = 26 * gI σ 80 103 + 10 := w32_i (by omega) (by omega)
  have e3 : w32 ((b / 8 : Nat) : Int) = ((b / 8 : Nat) : Int) := w32_i (by omega) (by omega)
  have e4 : w32 (26 * gI σ 80 103 + 10 + ((b / 8 : Nat) : Int)) = ((26 * (gI σ 80 103).toNat + 10 + b / 8 : Nat) : Int) := by
    rw [w32_i (by omega) (by omega)]
    omega
  rw [M504, e504_0, tdiv8, e1, e2, e3, e4]
theorem bit_rd {r : Int} {b : Nat} (h : 0 ≤ r) : (iAnd (iShr r (Int.tmod (b : Int) 8)) 1 = 1) = (r.toNat.testBit (b % 8) = true) := by
  have e1 : iAnd (iShr r (Int.tmod (b : Int) 8)) 1 = iShr r (Int.tmod (b : Int) 8) % 2 := iAnd_mask (k := 1) (by omega)
  rw [e1, tmod8]
  unfold iShr
  have e2 : ((((b % 8 : Nat) : Int)) % 32).toNat = b % 8 := by omega
  rw [e2, Nat.testBit_eq_decide_div_mod_eq, decide_eq_true_eq]
  have e3 : (r / (2 : Int) ^ (b % 8)) = ((r.toNat / 2 ^ (b % 8) : Nat) : Int) := by
    rw [Int.natCast_ediv, Int.toNat_of_nonneg h, Int.natCast_pow]
    rfl
  rw [e3]
  exact propext (by omega)
theorem sub_s1 {n m : Nat} (h : m + 1 ≤ n) : n - m = (n - (m + 1)) + 1 := by omega
theorem prt_lt {f b k F : Nat} (h1 : f < F) (h2 : b + k < 128) : 26 * f + 10 + (b + k) / 8 < 26 * F := by omega
theorem L505 {n b f : Nat} {S : ST} {σ : MS} (hJ : J0 σ S) (hF : sF S ≤ 4) (hc : canS S) (h1 : f < sF S) (hB : gI σ 80 102 = (b : Int)) (hf : gI σ 80 103 = (f : Int)) (bn : b + n ≤ 128) : MM 505 [mR (some 80), mI (n : Int)] σ = some (some (mI (b2 (areS S f b n = true))), σ) := by
  have eN : w32 (gI σ 80 102 + (n : Int)) = ((b + n : Nat) : Int) := by
    rw [w32_i (by omega) (by omega)]
    omega
  have key : ∀ k j : Nat, j + k = n → RR (lkB tb505) (B505_7, [some (mR (some 80)), some (mI (n : Int)), some (mI (b2 (areS S f b k = true))), some (mI ((b + k : Nat) : Int)), none], [], σ) = some (some (mI (b2 (areS S f b n = true))), σ) := by
    intro k j
    induction j generalizing k with
    | zero =>
      intro e
      have e : k = n := by omega
      subst e
      rw [e505_7, eN, if_pos (by omega), if_pos (by rw [bl_b2]; trivial)]
    | succ j ih =>
      intro e
      have kn : k < n := by omega
      have e3 : w32 (((b + k : Nat) : Int) + 1) = ((b + (k + 1) : Nat) : Int) := by
        rw [w32_i (by omega) (by omega)]
        omega
      have ar : areS S f b (k + 1) = (areS S f b k && decide (setB S f (b + k))) := areS_s
      have lt : 26 * f + 10 + (b + k) / 8 < 26 * sF S := prt_lt h1 (by omega)
      have hv := J0_v hJ lt
      have cv := hc _ lt
      obtain ⟨p, hp⟩ : ∃ p, p = 26 * f + 10 + (b + k) / 8 := ⟨_, rfl⟩
      rw [← hp] at lt hv cv
      have t4 : MM 504 [mR (some 80), mI ((b + k : Nat) : Int)] σ = some (some (mI (p : Int)), σ) := by
        have := T504 (σ := σ) (b := b + k) (by omega) (by omega)
        rwa [show (gI σ 80 103).toNat = f by omega, ← hp] at this
      have ih := ih (k + 1) (by omega)
      have fin : ∀ q : Prop, ∀ d : Decidable q, (q ↔ areS S f b (k + 1) = true) → RR (lkB tb505) (B505_75, [some (mR (some 80)), some (mI (n : Int)), some (mI (b2 (areS S f b k = true))), some (mI ((b + k : Nat) : Int)), some (mI (p : Int))], [mI (@b2 q d)], σ) = some (some (mI (b2 (areS S f b n = true))), σ) := fun q d hq => by
        rw [e505_75, e3, b2_c (e := inferInstance) hq]
        exact RR_q ih (by repeat (first | exact lq_nil | refine lq_cons (Or.inr rfl) ?_ | refine lq_cons (Or.inl rfl) ?_))
      have f0 : ¬ areS S f b (k + 1) = true → RR (lkB tb505) (B505_74, [some (mR (some 80)), some (mI (n : Int)), some (mI (b2 (areS S f b k = true))), some (mI ((b + k : Nat) : Int)), some (mI (p : Int))], [], σ) = some (some (mI (b2 (areS S f b n = true))), σ) := fun h => by
        rw [e505_74]
        have := fin False inferInstance ⟨fun z => z.elim, h⟩
        rwa [b2_no (p := False) not_false] at this
      have f1 : areS S f b (k + 1) = true → RR (lkB tb505) (B505_70, [some (mR (some 80)), some (mI (n : Int)), some (mI (b2 (areS S f b k = true))), some (mI ((b + k : Nat) : Int)), some (mI (p : Int))], [], σ) = some (some (mI (b2 (areS S f b n = true))), σ) := fun h => by
        rw [e505_70]
        have := fin True inferInstance ⟨fun _ => h, fun _ => trivial⟩
        rwa [b2_yes (p := True) trivial] at this
      have kk : gI σ 118 p = vk (sV S p) := by rw [q118, hv]
      have rr : gI σ 122 p = vr (sV S p) := by rw [q122, hv]
      have pb : 0 ≤ (p : Int) ∧ (p : Int) < 32664 := by omega
      rw [e505_7, eN, if_neg (by omega), t4]
      simp only [Option.bind_some, Option.toList_some, List.cons_append, List.nil_append]
      rw [e505_22]
      simp only [g_118, g_122, Int.toNat_natCast, kk, rr]
      by_cases a : areS S f b k = true
      · rw [if_neg (show ¬ b2 (areS S f b k = true) = 0 by rw [b2_yes a]; decide), if_pos pb]
        rw [a, Bool.true_and] at ar
        by_cases k0 : vk (sV S p) = 0
        · rw [if_neg (not_not_intro k0), if_pos pb, bit_rd (cv.2.1 k0).2.1]
          have sb : setB S f (b + k) ↔ (vr (sV S p)).toNat.testBit ((b + k) % 8) = true := by
            unfold setB
            rw [← hp, if_pos k0]
          by_cases t : (vr (sV S p)).toNat.testBit ((b + k) % 8) = true
          · rw [if_neg (not_not_intro t)]
            exact f1 (by rw [ar]; exact decide_eq_true (sb.mpr t))
          · rw [if_pos t]
            exact f0 (by rw [ar]; exact fun z => t (sb.mp (of_decide_eq_true z)))
        · rw [if_pos k0, if_pos pb]
          have sb : setB S f (b + k) ↔ vk (sV S p) = 1 := by
            unfold setB
            rw [← hp, if_neg k0]
          by_cases t : vk (sV S p) = 1
          · rw [if_neg (not_not_intro t)]
            exact f1 (by rw [ar]; exact decide_eq_true (sb.mpr t))
          · rw [if_pos t]
            exact f0 (by rw [ar]; exact fun z => t (sb.mp (of_decide_eq_true z)))
      · rw [if_pos (b2_no a)]
        have a' : areS S f b k = false := by simpa using a
        exact f0 (by rw [ar, a', Bool.false_and]; decide)
  have := key 0 n (by omega)
  rw [M505, e505_0, hB]
  rw [areS_0, b2_yes rfl] at this
  exact this
theorem T505 {n : Nat} {S : ST} {σ : MS} (hJ : J0 σ S) (hF : sF S ≤ 4) (hc : canS S) (h1 : 0 ≤ gI σ 80 103 ∧ gI σ 80 103 < sF S) (h2 : 0 ≤ gI σ 80 102) (h3 : gI σ 80 102 + n ≤ 128) : MM 505 [mR (some 80), mI (n : Int)] σ = some (some (mI (b2 (areS S (gI σ 80 103).toNat (gI σ 80 102).toNat n = true))), σ) :=
  L505 hJ hF hc (by omega) (by omega) (by omega) (by omega)
theorem T506 {x : Int} {σ : MS} (hx : inB x) : MM 506 [mR (some 80), mI x] σ = some (none, wrV σ x.toNat (unpV (aV σ x.toNat))) := by
  unfold unpV
  by_cases c0 : gI σ 118 x.toNat = 0
  · rw [if_pos (show vk (aV σ x.toNat) = 0 from c0), wrV_eta]
    simp only [M506, e506_0, Option.getD_some, Option.bind_some, Option.toList_some, Option.toList_none, List.cons_append, List.nil_append, and_self, and_true, true_and, false_and, and_false, ite_self, not_true_eq_false, not_false_eq_true, reduceIte, Nat.reduceEqDiff, ab_I, ab_L, ab_R, ao_I, ao_L, ao_R, gL_sL, gI_sI, gR_sR, gI_sL, gI_sR, gL_sI, gL_sR, gR_sI, gR_sL, g_118, g_122, hx.1, hx.2, c0]
  · rw [if_neg (show ¬ vk (aV σ x.toNat) = 0 from c0)]
    by_cases c1 : gI σ 118 x.toNat = 1
    · rw [if_pos (show vk (aV σ x.toNat) = 1 from c1)]
      simp only [M506, e506_0, e506_26, e506_35, Option.getD_some, Option.bind_some, Option.toList_some, Option.toList_none, List.cons_append, List.nil_append, and_self, and_true, true_and, false_and, and_false, ite_self, not_true_eq_false, not_false_eq_true, reduceIte, Nat.reduceEqDiff, ab_I, ab_L, ab_R, ao_I, ao_L, ao_R, gL_sL, gI_sI, gR_sR, gI_sL, gI_sR, gL_sI, gL_sR, gR_sI, gR_sL, g_118, g_122, hx.1, hx.2, c1, oneI, T431 hx (show (0 : Int) ≤ 0 ∧ (0 : Int) ≤ 10 by decide), p122, aV_same, wrV_same]
      rfl
    · rw [if_neg (show ¬ vk (aV σ x.toNat) = 1 from c1)]
      simp only [M506, e506_0, e506_26, e506_35, Option.getD_some, Option.bind_some, Option.toList_some, Option.toList_none, List.cons_append, List.nil_append, and_self, and_true, true_and, false_and, and_false, ite_self, not_true_eq_false, not_false_eq_true, reduceIte, Nat.reduceEqDiff, ab_I, ab_L, ab_R, ao_I, ao_L, ao_R, gL_sL, gI_sI, gR_sR, gI_sL, gI_sR, gL_sI, gL_sR, gR_sI, gR_sL, g_118, g_122, hx.1, hx.2, c0, c1, T431 hx (show (0 : Int) ≤ 0 ∧ (0 : Int) ≤ 10 by decide), p122, aV_same, wrV_same]
      rfl
theorem T508 {w : B64} {σ : MS} : MM 508 [mI (fOp w)] σ = some (some (mI ((bytN w : Nat) : Int)), σ) := by
  have f := fld_rng w
  have r : fB w = 0 ∨ fB w = 1 ∨ fB w = 2 ∨ fB w = 3 := by unfold fB; omega
  rcases r with c | c | c | c
  · have e : iAnd (fOp w) 24 = 0 := by rw [m24, c]; rfl
    simp only [M508, e508_0, Option.getD_some, Option.bind_some, Option.toList_some, Option.toList_none, List.cons_append, List.nil_append, and_self, and_true, true_and, false_and, and_false, ite_self, not_true_eq_false, not_false_eq_true, reduceIte, Nat.reduceEqDiff, ab_I, ab_L, ab_R, ao_I, ao_L, ao_R, gL_sL, gI_sI, gR_sR, gI_sL, gI_sR, gL_sI, gL_sR, gR_sI, gR_sL, e, bytN, c]
    rfl
  · have e : iAnd (fOp w) 24 = 8 := by rw [m24, c]; rfl
    simp only [M508, e508_0, Option.getD_some, Option.bind_some, Option.toList_some, Option.toList_none, List.cons_append, List.nil_append, and_self, and_true, true_and, false_and, and_false, ite_self, not_true_eq_false, not_false_eq_true, reduceIte, Nat.reduceEqDiff, ab_I, ab_L, ab_R, ao_I, ao_L, ao_R, gL_sL, gI_sI, gR_sR, gI_sL, gI_sR, gL_sI, gL_sR, gR_sI, gR_sL, e, bytN, c, Int.reduceEq]
    rfl
  · have e : iAnd (fOp w) 24 = 16 := by rw [m24, c]; rfl
    simp only [M508, e508_0, Option.getD_some, Option.bind_some, Option.toList_some, Option.toList_none, List.cons_append, List.nil_append, and_self, and_true, true_and, false_and, and_false, ite_self, not_true_eq_false, not_false_eq_true, reduceIte, Nat.reduceEqDiff, ab_I, ab_L, ab_R, ao_I, ao_L, ao_R, gL_sL, gI_sI, gR_sR, gI_sL, gI_sR, gL_sI, gL_sR, gR_sI, gR_sL, e, bytN, c, Int.reduceEq]
    rfl
  · have e : iAnd (fOp w) 24 = 24 := by rw [m24, c]; rfl
    simp only [M508, e508_0, Option.getD_some, Option.bind_some, Option.toList_some, Option.toList_none, List.cons_append, List.nil_append, and_self, and_true, true_and, false_and, and_false, ite_self, not_true_eq_false, not_false_eq_true, reduceIte, Nat.reduceEqDiff, ab_I, ab_L, ab_R, ao_I, ao_L, ao_R, gL_sL, gI_sI, gR_sR, gI_sL, gI_sR, gL_sI, gL_sR, gR_sI, gR_sL, e, bytN, c, Int.reduceEq]
    rfl
theorem iOr_nat {a : Int} {k : Nat} (h0 : 0 ≤ a) (h1 : a < 256) (hk : k < 8) : iOr a (iShl 1 ((k : Nat) : Int)) = ((a.toNat ||| 1 <<< k : Nat) : Int) := by
  have e1 : iShl 1 ((k : Nat) : Int) = ((1 <<< k : Nat) : Int) := by
    unfold iShl
    have e2 : (((k : Nat) : Int) % 32).toNat = k := by omega
    rw [e2, Nat.one_shiftLeft]
    have e3 : (2 : Nat) ^ k ≤ 128 := Nat.pow_le_pow_right (n := 2) (by omega) (show k ≤ 7 by omega)
    have e4 : (2 : Int) ^ k = ((2 ^ k : Nat) : Int) := by rw [Int.natCast_pow]; rfl
    rw [Int.one_mul, e4]
    generalize (2 ^ k : Nat) = q at e3
    exact w32_i (by omega) (by omega)
  rw [e1]
  have l1 : (1 <<< k : Nat) < 2 ^ 8 := by
    rw [Nat.one_shiftLeft]
    exact Nat.pow_lt_pow_right (by omega) (by omega)
  have l2 : (a.toNat ||| 1 <<< k : Nat) < 2 ^ 8 := Nat.or_lt_two_pow (by omega) l1
  generalize (1 <<< k : Nat) = q at l1 l2
  unfold iOr b32
  have t1 : (BitVec.ofInt 32 a).toNat = a.toNat := by rw [BitVec.toNat_ofInt]; omega
  have t2 : (BitVec.ofInt 32 ((q : Nat) : Int)).toNat = q := by rw [BitVec.toNat_ofInt]; omega
  rw [BitVec.toInt_eq_toNat_of_lt, BitVec.toNat_or, t1, t2]
  rw [BitVec.toNat_or, t1, t2]
  omega
-- FILE 37.jq
/-! ===== what an instruction of the reference's judge may touch ===== -/
abbrev jR (s : Nat) : Prop := s < 104 ∨ (26104 ≤ s ∧ s < 26208) ∨ 32552 ≤ s
abbrev jT (k s : Nat) : Prop := ((118 ≤ k ∧ k ≤ 122) ∧ jR s) ∨ (k = 80 ∧ (s = 85 ∨ s = 88 ∨ s = 89 ∨ s = 90 ∨ s = 102 ∨ s = 103)) ∨ (k = 123 ∧ (s = 0 ∨ s = 251 ∨ s = 313)) ∨ (k = 124 ∧ (s < 4 ∨ (1004 ≤ s ∧ s < 1008) ∨ 1252 ≤ s)) ∨ (k = 125 ∧ (s = 0 ∨ s = 251 ∨ s = 313)) ∨ (k = 126 ∧ (s < 64 ∨ (16064 ≤ s ∧ s < 16128) ∨ 20032 ≤ s)) ∨ (k = 138 ∧ s = 5)
def jq (τ σ : MS) : Prop := (∀ k s, ¬ jT k s → gI τ k s = gI σ k s) ∧ (∀ k s, ¬ ((112 ≤ k ∧ k ≤ 117) ∧ jR s) → gL τ k s = gL σ k s) ∧ τ.2.2 = σ.2.2
section JQ
variable {a b c τ σ : MS} {i k s : Nat} {v : VL} {x : Int} {S : ST}
theorem jq_r (σ : MS) : jq σ σ := ⟨fun _ _ _ => rfl, fun _ _ _ => rfl, rfl⟩
theorem jq_t (h1 : jq a b) (h2 : jq b c) : jq a c := ⟨fun k s p => (h1.1 k s p).trans (h2.1 k s p), fun k s p => (h1.2.1 k s p).trans (h2.2.1 k s p), h1.2.2.trans h2.2.2⟩
theorem jq_sq (h : sqc a b) : jq a b := ⟨fun k s p => h.1 k s (fun q1 q2 => by omega) (by omega), fun k s p => h.2.1 k s (fun q1 q2 => by omega), h.2.2⟩
theorem jq_w (h : jR i) : jq (wrV σ i v) σ := by
  refine ⟨fun k s p => ?_, fun k s p => ?_, rfl⟩
  · by_cases e : s = i
    · subst e
      exact gI_wrV_o (fun q => p (Or.inl ⟨q, h⟩))
    · exact gI_wrV_s e
  · by_cases e : s = i
    · subst e
      exact gL_wrV_o (fun q => p ⟨q, h⟩)
    · exact gL_wrV_s e
theorem jq_I (h : jT k s) : jq (sI σ k s x) σ := by
  refine ⟨fun k' s' p => ?_, fun _ _ _ => rfl, rfl⟩
  rw [gI_sI, if_neg]
  intro q
  rw [q.1, q.2] at p
  exact p h
theorem jq_f : jq (flt σ x) σ := jq_I (by omega)
theorem jq_mk {r : Int} : jq (mk10 σ r) σ := jq_sq mk_sq
theorem jq_EO {E : EV} (h : jq τ σ) (o : EO σ E) : EO τ E := fun m hm => by
  rw [h.1 _ _ (by omega), h.1 _ _ (by omega), h.1 _ _ (by omega), h.1 _ _ (by omega)]
  exact o m hm
/-- what is behind an instruction: the fault, the state, there, whether the way ends, the newest TAG -/
def jpo (σ τ : MS) (f : Int) (S' : ST) (n e t' : Int) : Prop := jq τ σ ∧ gI τ 80 90 = f ∧ (f = 0 → J0 τ S' ∧ gI τ 80 88 = n ∧ gI τ 80 89 = e ∧ gI τ 80 85 = t')
theorem jpo_f {f : Int} {S' : ST} {n e t' : Int} (hf : ¬ f = 0) (h0 : gI σ 80 90 = 0) (h : sqc τ (flt σ f)) : jpo σ τ f S' n e t' := by
  refine ⟨jq_t (jq_sq h) jq_f, ?_, fun z => absurd z hf⟩
  rw [sqc_I h (by omega) (by omega), fl_g, h0, fst0]
theorem jpo_w {S' : ST} {t' : Int} (h0 : gI σ 80 90 = 0) (hJ : J0 σ S) (hF : sF S ≤ 4) (hk : k < 26 * sF S) (hS : S' = (sF S, upV (sV S) k v, sB S, sH S)) (h : sqc τ (wrV (sI σ 80 85 t') k v)) : jpo σ τ 0 S' (gI σ 80 88) (gI σ 80 89) t' := by
  refine ⟨jq_t (jq_sq h) (jq_t (jq_w (by omega)) (jq_I (by omega))), ?_, fun _ => ⟨?_, ?_, ?_, ?_⟩⟩
  · rw [sqc_I h (by omega) (by omega), gW80, gI_sI, if_neg (by omega), h0]
  · rw [hS]
    exact JSt_sq h (by omega) hF (J0_wV hF (JSt_sI (by omega) hJ))
  · rw [sqc_I h (by omega) (by omega), gW80, gI_sI, if_neg (by omega)]
  · rw [sqc_I h (by omega) (by omega), gW80, gI_sI, if_neg (by omega)]
  · rw [sqc_I h (by omega) (by omega), gW80, gI_sI, if_pos ⟨rfl, rfl⟩]
theorem jpo_s (h0 : gI σ 80 90 = 0) (hJ : J0 σ S) (hF : sF S ≤ 4) (h : sqc τ σ) : jpo σ τ 0 S (gI σ 80 88) (gI σ 80 89) (gI σ 80 85) :=
  ⟨jq_sq h, (sqc_I h (by omega) (by omega)).trans h0, fun _ => ⟨JSt_sq h (by omega) hF hJ, sqc_I h (by omega) (by omega), sqc_I h (by omega) (by omega), sqc_I h (by omega) (by omega)⟩⟩
/-- bytes set, one by one -/
def oneB (S : ST) (f b : Nat) : ST := (sF S, upV (sV S) (26 * f + 10 + b / 8) (vR (unpV (sV S (26 * f + 10 + b / 8))) (((vr (unpV (sV S (26 * f + 10 + b / 8)))).toNat ||| 1 <<< (b % 8) : Nat) : Int)), sB S, sH S)
theorem unp_c {v : VL} (h : canV v) : 0 ≤ vr (unpV v) ∧ vr (unpV v) < 256 := by
  unfold unpV
  split
  · rename_i k
    have := (h.2.1 k).2
    omega
  · show 0 ≤ (if vk v = 1 then (255 : Int) else 0) ∧ (if vk v = 1 then (255 : Int) else 0) < 256
    split <;> omega
theorem one_a {f b m : Nat} (h : canS S) (hp : 26 * f + 10 + (b + m) / 8 < 26 * sF S) : oneB (putB S f b m m) f (b + m) = putB S f b (m + 1) (m + 1) := by
  have e := putB_u (S := S) (f := f) (b := b) (m := m) (k := m) (Nat.le_refl m) (unp_c (h _ hp)).1
  have e2 := putB_b (S := S) (f := f) (b := b) (n := m + 1) (k := m) (by omega)
  unfold oneB
  rw [← e2, ← e]
  generalize 26 * f + 10 + (b + m) / 8 = p
  refine st_ext rfl (fun j => ?_) rfl rfl
  generalize putB S f b m m = P
  show (if j = p then vR (unpV (sV P p)) (((vr (unpV (sV P p))).toNat ||| 1 <<< ((b + m) % 8) : Nat) : Int) else sV P j) = (if j = p then vR (if p = p then unpV (sV P p) else sV P p) (((vr (if p = p then unpV (sV P p) else sV P p)).toNat ||| 1 <<< ((b + m) % 8) : Nat) : Int) else if j = p then unpV (sV P p) else sV P j)
  rw [if_pos (rfl : p = p)]
  by_cases e : j = p
  · rw [if_pos e, if_pos e]
  · rw [if_neg e, if_neg e, if_neg e]
theorem one_c {f b n k : Nat} (hk : k < n) : oneB (putB S f b n k) f (b + k) = putB S f b n (k + 1) := by
  rw [← putB_b hk]
  have z : unpV (sV (putB S f b n k) (26 * f + 10 + (b + k) / 8)) = sV (putB S f b n k) (26 * f + 10 + (b + k) / 8) := by
    refine unp_0 ?_
    rw [put_v, if_pos (by omega)]
    exact unp_k (sV S (26 * f + 10 + (b + k) / 8))
  unfold oneB
  rw [z]
  rfl
/-- a stretch of bytes is set -/
theorem L507 {n b : Nat} {f : Nat} {Q : Nat → ST} (hF : sF (Q 0) ≤ 4) (hf : f < sF (Q 0)) (hb : gI σ 80 102 = (b : Int)) (hff : gI σ 80 103 = (f : Int)) (hn : b + n ≤ 128) (hQ : ∀ m, m < n → oneB (Q m) f (b + m) = Q (m + 1)) (hc : ∀ m, m < n → canS (Q m)) (hJ : J0 σ (Q 0)) : okc (MM 507 [mR (some 80), mI (n : Int)] σ) none (fun τ => J0 τ (Q n) ∧ (∀ k s, ¬ ((118 ≤ k ∧ k ≤ 122) ∧ s < 104) → gI τ k s = gI σ k s) ∧ (∀ k s, ¬ ((112 ≤ k ∧ k ≤ 117) ∧ s < 104) → gL τ k s = gL σ k s) ∧ τ.2.2 = σ.2.2) := by
  have hs : ∀ m, m ≤ n → sF (Q m) = sF (Q 0) := by
    intro m
    induction m with
    | zero => intro _; rfl
    | succ m ih =>
      intro hm
      rw [← hQ m (by omega)]
      exact ih (by omega)
  have key : ∀ (j m : Nat) (τ : MS), j + m = n → J0 τ (Q m) → (∀ k s, ¬ ((118 ≤ k ∧ k ≤ 122) ∧ s < 104) → gI τ k s = gI σ k s) → (∀ k s, ¬ ((112 ≤ k ∧ k ≤ 117) ∧ s < 104) → gL τ k s = gL σ k s) → τ.2.2 = σ.2.2 → okc (RR (lkB tb507) (B507_5, [some (mR (some 80)), some (mI (n : Int)), some (mI ((b + m : Nat) : Int))], [], τ)) none (fun τ => J0 τ (Q n) ∧ (∀ k s, ¬ ((118 ≤ k ∧ k ≤ 122) ∧ s < 104) → gI τ k s = gI σ k s) ∧ (∀ k s, ¬ ((112 ≤ k ∧ k ≤ 117) ∧ s < 104) → gL τ k s = gL σ k s) ∧ τ.2.2 = σ.2.2) := by
    intro j
    induction j with
    | zero =>
      intro m τ e hJ g1 g2 g3
      have e : m = n := by omega
      subst e
      have t2 : gI τ 80 102 = (b : Int) := (g1 _ _ (by omega)).trans hb
      rw [e507_5, t2, w32_i (by omega) (by omega), if_pos (by omega)]
      exact okc_s ⟨hJ, g1, g2, g3⟩
    | succ j ih =>
      intro m τ e hJ g1 g2 g3
      have t2 : gI τ 80 102 = (b : Int) := (g1 _ _ (by omega)).trans hb
      have t3 : gI τ 80 103 = (f : Int) := (g1 _ _ (by omega)).trans hff
      have sm := hs m (by omega)
      have lt : 26 * f + 10 + (b + m) / 8 < 26 * sF (Q m) := by omega
      have hv := J0_v hJ lt
      have cv := unp_c (hc m (by omega) _ lt)
      have hq := hQ m (by omega)
      unfold oneB at hq
      generalize hp : 26 * f + 10 + (b + m) / 8 = p at *
      have pb : inB (p : Int) := ⟨by omega, by omega⟩
      have t4 : MM 504 [mR (some 80), mI ((b + m : Nat) : Int)] τ = some (some (mI (p : Int)), τ) := by
        have := T504 (σ := τ) (b := b + m) (by omega) (by omega)
        rwa [show (gI τ 80 103).toNat = f by omega, hp] at this
      have t5 : ∀ v, MM 504 [mR (some 80), mI ((b + m : Nat) : Int)] (wrV τ p v) = some (some (mI (p : Int)), wrV τ p v) := fun v => by
        have := T504 (σ := wrV τ p v) (b := b + m) (by rw [gW80]; omega) (by omega)
        rwa [gW80, show (gI τ 80 103).toNat = f by omega, hp] at this
      rw [e507_5, t2, w32_i (by omega) (by omega), if_neg (by omega), t4]
      simp only [Option.bind_some, Option.toList_some, List.cons_append, List.nil_append, e507_21, T506 pb, Int.toNat_natCast, Option.toList_none, e507_24, t5, e507_33]
      simp only [Option.getD_some, g_122]
      rw [if_pos ⟨by omega, by omega⟩, if_pos ⟨by omega, by omega⟩, p122, aV_same, wrV_same, q122, aV_same, hv, tmod8, iOr_nat cv.1 cv.2 (by omega), w32_i (by omega) (by omega)]
      have jn := J0_wV (k := p) (v := vR (unpV (sV (Q m) p)) (((vr (unpV (sV (Q m) p))).toNat ||| 1 <<< ((b + m) % 8) : Nat) : Int)) (by omega) hJ
      rw [hq] at jn
      have e1 : ((b + m : Nat) : Int) + 1 = ((b + (m + 1) : Nat) : Int) := by omega
      rw [e1]
      refine ih (m + 1) _ (by omega) jn (fun k s q => ?_) (fun k s q => ?_) g3
      · rw [← g1 k s q]
        by_cases z : s = p
        · exact gI_wrV_o (by omega)
        · exact gI_wrV_s z
      · rw [← g2 k s q]
        by_cases z : s = p
        · exact gL_wrV_o (by omega)
        · exact gL_wrV_s z
  rw [M507, e507_0, hb]
  exact key n 0 σ (by omega) hJ (fun _ _ _ => rfl) (fun _ _ _ => rfl) rfl
end JQ
-- FILE 38.alu
/-! ===== the reference's judge: ALU ===== -/
theorem wid_l {w : B64} (h : fL w = 7) : @b2 (wid w) inferInstance = 1 := b2_yes h
theorem wid_n {w : B64} (h : ¬ fL w = 7) : @b2 (wid w) inferInstance = 0 := b2_no h
theorem m8r (w : B64) : (iAnd (fOp w) 8 = 0) = ¬ rgt w := by
  rw [m8]
  unfold rgt
  exact propext (by omega)
theorem can_mb {v : VL} : ¬ isMb v ↔ ¬ vk v = 6 ∧ ¬ vk v = 10 := by
  unfold isMb
  omega
section ALU
variable {w : B64} {S : ST} {E : EV} {t : Int} {σ σy : MS} {d y : Nat}
/-- what holds when both sides stand somewhere -/
def aH (S : ST) (E : EV) (w : B64) (t : Int) (σ σy : MS) (d y : Nat) : Prop := (J0 σ S ∧ okS E t S ∧ okAlu w ∧ (fL w = 4 ∨ fL w = 7)) ∧ (gI σ 80 90 = 0 ∧ gI σ 80 85 = t ∧ t < 1000000) ∧ (d = 26 * (sF S - 1) + dR w ∧ dR w ≤ 9) ∧ (sqc σy σ ∧ aV σy d = (rgV S (dR w)) ∧ aV σy y = (rgtV S w)) ∧ (y < 104 ∨ y = 32657 ∨ y = 32663) ∧ (okV E 3 t (rgV S (dR w)) ∧ (0 ≤ vk (rgtV S w) ∧ vk (rgtV S w) ≤ 10 ∧ (mvs (rgtV S w) → -4096 ≤ vo (rgtV S w) ∧ vo (rgtV S w) ≤ 4096)))
theorem aH_ok (h : aH S E w t σ σy d y) {v : VL} {t' : Int} {τ : MS} (hq : sqc τ (wrV (sI σy 80 85 t') d v)) : jpo σ τ 0 (wV S (dR w) v) (gI σ 80 88) (gI σ 80 89) t' := by
  obtain ⟨⟨h1, h2, h3, h4⟩, ⟨h5, h6, h7⟩, ⟨h8, h9⟩, ⟨h10, h11, h12⟩, h13, h14⟩ := h
  have hF := h2.1
  refine jpo_w h5 h1 hF.2 (k := d) (by omega) ?_ (sqc_t hq (sqc_wV (sqc_sI h10)))
  rw [h8]
  rfl
theorem aH_e (h : aH S E w t σ σy d y) : sI σy 80 85 t = σy := by
  obtain ⟨-, ⟨-, h6, -⟩, -, ⟨h10, -, -⟩, -, -⟩ := h
  rw [← h6, ← sqc_I h10 (by omega) (by omega)]
  exact sI_eta _ _ _
theorem aH_ok0 (h : aH S E w t σ σy d y) {v : VL} {τ : MS} (hq : sqc τ (wrV σy d v)) : jpo σ τ 0 (wV S (dR w) v) (gI σ 80 88) (gI σ 80 89) t := by
  refine aH_ok h ?_
  rw [aH_e h]
  exact hq
theorem aH_no (h : aH S E w t σ σy d y) {f : Int} {v : VL} {t' : Int} {τ : MS} (hf : ¬ f = 0) (hq : sqc τ (flt σy f)) : jpo σ τ f (wV S (dR w) v) (gI σ 80 88) (gI σ 80 89) t' := by
  obtain ⟨-, ⟨h5, -, -⟩, -, ⟨h10, -, -⟩, -, -⟩ := h
  exact jpo_f hf h5 (sqc_t hq (sqc_flt h10))
theorem aH_0 (h : aH S E w t σ σy d y) : gI σy 80 90 = 0 := by
  obtain ⟨-, ⟨h5, -, -⟩, -, ⟨h10, -, -⟩, -, -⟩ := h
  rw [sqc_I h10 (by omega) (by omega), h5]
theorem aH_d (h : aH S E w t σ σy d y) : inB (d : Int) ∧ d < 104 := by
  obtain ⟨⟨h1, h2, h3, h4⟩, ⟨h5, h6, h7⟩, ⟨h8, h9⟩, ⟨h10, h11, h12⟩, h13, h14⟩ := h
  have hF := h2.1
  exact ⟨⟨by omega, by omega⟩, by omega⟩
theorem aH_y (h : aH S E w t σ σy d y) : inB (y : Int) := by
  obtain ⟨⟨h1, h2, h3, h4⟩, ⟨h5, h6, h7⟩, ⟨h8, h9⟩, ⟨h10, h11, h12⟩, h13, h14⟩ := h
  exact ⟨by omega, by omega⟩
/-- both sides are there: a move -/
theorem L499a (h : aH S E w t σ σy d y) (c : fC w = 176) (hk : ¬ vk (rgtV S w) = 0) : okc (RR (lkB tb499) (B499_157, [some (mR (some 80)), some (mL w), none, some (mI (fOp w)), some (mI (fC w)), some (mI (b2 (wid w))), some (mI (b2 (rgt w))), some (mI (fO w)), some (mI (d : Int)), some (mI (y : Int)), none], [], σy)) none (fun τ => jpo σ τ (aluV S w t).1 (wV S (dR w) (aluV S w t).2.1) (gI σ 80 88) (gI σ 80 89) (aluV S w t).2.2) := by
  have hd := aH_d h
  have hy := aH_y h
  have h0 := aH_0 h
  have h' := h
  obtain ⟨⟨h1, h2, h3, h4⟩, ⟨h5, h6, h7⟩, ⟨h8, h9⟩, ⟨h10, h11, h12⟩, h13, h14⟩ := h'
  have un : aluV S w t = ((movV w (rgtV S w)).1, (movV w (rgtV S w)).2, t) := by
    unfold aluV
    rw [if_neg (by omega), if_neg (fun q => q.1 c), if_neg hk, if_pos c]
  have hO : fO w = 0 ∨ fO w = 8 ∨ fO w = 16 ∨ fO w = 32 := by
    have := h3.2
    rw [if_neg (by omega), if_neg (by omega)] at this
    rcases this.2.1 with q | q | q
    · exact Or.inl q
    · have := q.1
      unfold isQuo at this
      omega
    · rcases q.2 with q | q | q
      · exact Or.inr (Or.inl q)
      · exact Or.inr (Or.inr (Or.inl q))
      · exact Or.inr (Or.inr (Or.inr q.2))
  have wb : @b2 (wid w) inferInstance = 0 ∨ @b2 (wid w) inferInstance = 1 := by
    by_cases q : wid w
    · exact Or.inr (b2_yes q)
    · exact Or.inl (b2_no q)
  have ky : vk (aV σy (y : Int).toNat) = vk (rgtV S w) := by rw [Int.toNat_natCast, h12]
  have t := T501 (σ := σy) (d := (d : Int)) (y := (y : Int)) (o := fO w) hd.1 hy (by omega) (by omega) wb h0 hO (by rw [ky]; omega)
  simp only [e499_157, Option.getD_some, Option.bind_some, Option.toList_some, Option.toList_none, List.cons_append, List.nil_append, and_self, and_true, true_and, false_and, and_false, ite_self, not_true_eq_false, not_false_eq_true, reduceIte, Nat.reduceEqDiff, ab_I, ab_L, ab_R, ao_I, ao_L, ao_R, gL_sL, gI_sI, gR_sR, gI_sL, gI_sR, gL_sI, gL_sR, gR_sI, gR_sL, h0, c, Int.reduceEq]
  refine okc_b t fun τ q => ?_
  simp only [Option.toList_none, List.nil_append, e499_185]
  refine okc_s ?_
  simp only [Int.toNat_natCast, h12, b2_1'] at q
  rw [un]
  unfold movV
  by_cases a : wid w ∧ fO w = 0
  · rw [if_pos a] at q ⊢
    exact aH_ok0 h (by rw [q]; exact sqc_r _)
  · rw [if_neg a] at q ⊢
    by_cases b : wntN (rgtV S w) (rgtV S w) = 0
    · rw [if_neg (not_not_intro b)] at q ⊢
      by_cases e : fO w = 0
      · rw [if_pos e] at q ⊢
        exact aH_ok0 h q
      · rw [if_neg e] at q ⊢
        by_cases g : wid w
        · rw [if_pos g] at q ⊢
          exact aH_ok0 h q
        · rw [if_neg g] at q ⊢
          exact aH_ok0 h q
    · rw [if_pos b] at q ⊢
      exact aH_no h b (by rw [q]; exact sqc_r _)
/-- less it -/
theorem L499b (h : aH S E w t σ σy d y) (c : fC w = 128) (hkd : ¬ vk (rgV S (dR w)) = 0) (hk : ¬ vk (rgtV S w) = 0) : okc (RR (lkB tb499) (B499_157, [some (mR (some 80)), some (mL w), none, some (mI (fOp w)), some (mI (fC w)), some (mI (b2 (wid w))), some (mI (b2 (rgt w))), some (mI (fO w)), some (mI (d : Int)), some (mI (y : Int)), none], [], σy)) none (fun τ => jpo σ τ (aluV S w t).1 (wV S (dR w) (aluV S w t).2.1) (gI σ 80 88) (gI σ 80 89) (aluV S w t).2.2) := by
  have hd := aH_d h
  have hy := aH_y h
  have h0 := aH_0 h
  have h' := h
  obtain ⟨⟨h1, h2, h3, h4⟩, ⟨h5, h6, h7⟩, ⟨h8, h9⟩, ⟨h10, h11, h12⟩, h13, h14⟩ := h'
  have un : aluV S w t = if ¬ wntN (rgV S (dR w)) (rgV S (dR w)) = 0 then (wntN (rgV S (dR w)) (rgV S (dR w)), unsV, t) else if wid w then (0, numV (negN (vn (rgV S (dR w)))), t) else (0, numV (cutT (negN (cutT (vn (rgV S (dR w)))))), t) := by
    unfold aluV
    rw [if_neg (by omega), if_neg (fun q => hkd q.2), if_neg hk, if_neg (by omega), if_pos c]
  have b1 : inB 32657 := by decide
  have b2x : inB 32659 := by decide
  have n1 : ¬ d = (32657 : Int).toNat := by have := hd.2; omega
  have n2 : ¬ (32657 : Int).toNat = d := by have := hd.2; omega
  have n3 : ¬ (32657 : Int).toNat = (32659 : Int).toNat := by decide
  have n4 : ¬ d = (32659 : Int).toNat := by have := hd.2; omega
  generalize hρ : wrV σy (32657 : Int).toNat (numV (cstN (BitVec.ofNat 64 0))) = ρ
  have r1 : sqc ρ σy := by rw [← hρ]; exact sqc_w (by decide)
  have r2 : aV ρ d = (rgV S (dR w)) := by rw [← hρ, aV_ne n1, h11]
  have r3 : aV ρ (32657 : Int).toNat = numV (cstN 0#64) := by rw [← hρ, aV_same]
  have s : RR (lkB tb499) (B499_157, [some (mR (some 80)), some (mL w), none, some (mI (fOp w)), some (mI (fC w)), some (mI (b2 (wid w))), some (mI (b2 (rgt w))), some (mI (fO w)), some (mI (d : Int)), some (mI (y : Int)), none], [], σy) = RR (lkB tb499) (B499_210, [some (mR (some 80)), some (mL w), none, some (mI (fOp w)), some (mI (fC w)), some (mI (b2 (wid w))), some (mI (b2 (rgt w))), some (mI (fO w)), some (mI (d : Int)), some (mI (y : Int)), none], [], flt ρ (wntN (rgV S (dR w)) (rgV S (dR w)))) := by
    simp only [e499_157, e499_202, Option.getD_some, Option.bind_some, Option.toList_some, Option.toList_none, List.cons_append, List.nil_append, and_self, and_true, true_and, false_and, and_false, ite_self, not_true_eq_false, not_false_eq_true, reduceIte, Nat.reduceEqDiff, ab_I, ab_L, ab_R, ao_I, ao_L, ao_R, gL_sL, gI_sI, gR_sR, gI_sL, gI_sR, gL_sI, gL_sR, gR_sI, gR_sL, h0, c, Int.reduceEq, T433 b1.1 b1.2, hρ, T497 hd.1 hd.1, Int.toNat_natCast, r2]
  rw [s, un]
  by_cases f : wntN (rgV S (dR w)) (rgV S (dR w)) = 0
  · rw [f, flt_0, if_neg (not_not_intro rfl)]
    have g0 : gI ρ 80 90 = 0 := (sqc_I r1 (by omega) (by omega)).trans h0
    by_cases wd : wid w
    · rw [if_pos wd, wid_l wd]
      simp only [e499_210, e499_233, e499_272, Option.getD_some, Option.bind_some, Option.toList_some, Option.toList_none, List.cons_append, List.nil_append, and_self, and_true, true_and, false_and, and_false, ite_self, not_true_eq_false, not_false_eq_true, reduceIte, Nat.reduceEqDiff, ab_I, ab_L, ab_R, ao_I, ao_L, ao_R, gL_sL, gI_sI, gR_sR, gI_sL, gI_sR, gL_sI, gL_sR, gR_sI, gR_sL, g0, oneI, T449 hd.1 b1 hd.1, Int.toNat_natCast, r2, r3]
      exact okc_s (aH_ok0 h (sqc_wV r1))
    · rw [if_neg wd, wid_n wd]
      simp only [e499_210, e499_236, e499_252, e499_264, e499_272, Option.getD_some, Option.bind_some, Option.toList_some, Option.toList_none, List.cons_append, List.nil_append, and_self, and_true, true_and, false_and, and_false, ite_self, not_true_eq_false, not_false_eq_true, reduceIte, Nat.reduceEqDiff, ab_I, ab_L, ab_R, ao_I, ao_L, ao_R, gL_sL, gI_sI, gR_sR, gI_sL, gI_sR, gL_sI, gL_sR, gR_sI, gR_sL, g0, T454 b2x hd.1, T449 hd.1 b1 b2x, T454 hd.1 hd.1, Int.toNat_natCast, r2, aV_same, aV_ne n3, r3, wrV_same]
      exact okc_s (aH_ok0 h (sqc_wV (sqc_t (sqc_w (by decide)) r1)))
  · have g0 : ¬ gI (flt ρ (wntN (rgV S (dR w)) (rgV S (dR w)))) 80 90 = 0 := by
      rw [fl_g, (sqc_I r1 (by omega) (by omega)).trans h0, fst0]
      exact f
    rw [if_pos f]
    simp only [e499_210, e499_236, e499_272, Option.getD_some, Option.bind_some, Option.toList_some, Option.toList_none, List.cons_append, List.nil_append, and_self, and_true, true_and, false_and, and_false, ite_self, not_true_eq_false, not_false_eq_true, reduceIte, Nat.reduceEqDiff, ab_I, ab_L, ab_R, ao_I, ao_L, ao_R, gL_sL, gI_sI, gR_sR, gI_sL, gI_sR, gL_sI, gL_sR, gR_sI, gR_sL, g0]
    exact okc_s (aH_no h f (sqc_flt r1))
/-- numbers alone -/
theorem L499n (h : aH S E w t σ σy d y) (c1 : ¬ fC w = 176) (c2 : ¬ fC w = 128) (c3 : ¬ fC w = 208) (hv : aluV S w t = if ¬ wntN (rgV S (dR w)) (rgtV S w) = 0 then (wntN (rgV S (dR w)) (rgtV S w), unsV, t) else if wid w then (0, numV (opN (fC w) (fO w) (vn (rgV S (dR w))) (vn (rgtV S w))), t) else (0, numV (opW (fC w) (fO w) (vn (rgV S (dR w))) (vn (rgtV S w))), t)) (x10 : Int) : okc (RR (lkB tb499) (B499_415, [some (mR (some 80)), some (mL w), none, some (mI (fOp w)), some (mI (fC w)), some (mI (b2 (wid w))), some (mI (b2 (rgt w))), some (mI (fO w)), some (mI (d : Int)), some (mI (y : Int)), some (mI x10)], [], σy)) none (fun τ => jpo σ τ (aluV S w t).1 (wV S (dR w) (aluV S w t).2.1) (gI σ 80 88) (gI σ 80 89) (aluV S w t).2.2) := by
  have hd := aH_d h
  have hy := aH_y h
  have h0 := aH_0 h
  have h' := h
  obtain ⟨⟨h1, h2, h3, h4⟩, ⟨h5, h6, h7⟩, ⟨h8, h9⟩, ⟨h10, h11, h12⟩, h13, h14⟩ := h'
  have hO : okO (fC w) (fO w) := by
    have r := fld_rng w
    have q := h3.2
    rw [if_neg c3, if_neg c2] at q
    have q0 := h3.1.2
    refine ⟨?_, fun z => ?_⟩
    · have e : fC w = fOp w / 16 * 16 := rfl
      have e2 : 0 ≤ fOp w ∧ fOp w < 256 := r.1
      unfold isCode
      omega
    · rcases q.2.1 with q | q | q
      · exact Or.inl q
      · exact Or.inr q.2
      · exfalso; omega
  rw [hv]
  have s : RR (lkB tb499) (B499_415, [some (mR (some 80)), some (mL w), none, some (mI (fOp w)), some (mI (fC w)), some (mI (b2 (wid w))), some (mI (b2 (rgt w))), some (mI (fO w)), some (mI (d : Int)), some (mI (y : Int)), some (mI x10)], [], σy) = RR (lkB tb499) (B499_423, [some (mR (some 80)), some (mL w), none, some (mI (fOp w)), some (mI (fC w)), some (mI (b2 (wid w))), some (mI (b2 (rgt w))), some (mI (fO w)), some (mI (d : Int)), some (mI (y : Int)), some (mI x10)], [], flt σy (wntN (rgV S (dR w)) (rgtV S w))) := by
    simp only [e499_415, Option.getD_some, Option.bind_some, Option.toList_some, Option.toList_none, List.cons_append, List.nil_append, and_self, and_true, true_and, false_and, and_false, ite_self, not_true_eq_false, not_false_eq_true, reduceIte, Nat.reduceEqDiff, ab_I, ab_L, ab_R, ao_I, ao_L, ao_R, gL_sL, gI_sI, gR_sR, gI_sL, gI_sR, gL_sI, gL_sR, gR_sI, gR_sL, T497 hd.1 hy, Int.toNat_natCast, h11, h12]
  rw [s]
  by_cases f : wntN (rgV S (dR w)) (rgtV S w) = 0
  · rw [f, flt_0, if_neg (not_not_intro rfl)]
    by_cases wd : wid w
    · rw [if_pos wd, wid_l wd]
      simp only [e499_423, e499_449, e499_473, Option.getD_some, Option.bind_some, Option.toList_some, Option.toList_none, List.cons_append, List.nil_append, and_self, and_true, true_and, false_and, and_false, ite_self, not_true_eq_false, not_false_eq_true, reduceIte, Nat.reduceEqDiff, ab_I, ab_L, ab_R, ao_I, ao_L, ao_R, gL_sL, gI_sI, gR_sR, gI_sL, gI_sR, gL_sI, gL_sR, gR_sI, gR_sL, h0, oneI, T452 hO hd.1 hd.1 hy, Int.toNat_natCast, h11, h12]
      exact okc_s (aH_ok0 h (sqc_r _))
    · rw [if_neg wd, wid_n wd]
      obtain ⟨p, q, e⟩ := T455 (σ := σy) hO hd.1 hd.1 hy (by omega) ⟨by omega, by omega⟩
      simp only [Int.toNat_natCast, h11, h12] at e
      simp only [e499_423, e499_452, e499_473, Option.getD_some, Option.bind_some, Option.toList_some, Option.toList_none, List.cons_append, List.nil_append, and_self, and_true, true_and, false_and, and_false, ite_self, not_true_eq_false, not_false_eq_true, reduceIte, Nat.reduceEqDiff, ab_I, ab_L, ab_R, ao_I, ao_L, ao_R, gL_sL, gI_sI, gR_sR, gI_sL, gI_sR, gL_sI, gL_sR, gR_sI, gR_sL, h0, e]
      exact okc_s (aH_ok0 h (sqc_wV (sqc_t (sqc_w (by omega)) (sqc_w (by omega)))))
  · have g0 : ¬ gI (flt σy (wntN (rgV S (dR w)) (rgtV S w))) 80 90 = 0 := by
      rw [fl_g, h0, fst0]
      exact f
    rw [if_pos f]
    simp only [e499_423, e499_452, e499_473, Option.getD_some, Option.bind_some, Option.toList_some, Option.toList_none, List.cons_append, List.nil_append, and_self, and_true, true_and, false_and, and_false, ite_self, not_true_eq_false, not_false_eq_true, reduceIte, Nat.reduceEqDiff, ab_I, ab_L, ab_R, ao_I, ao_L, ao_R, gL_sL, gI_sI, gR_sR, gI_sL, gI_sR, gL_sI, gL_sR, gR_sI, gR_sL, g0]
    exact okc_s (aH_no h f (sqc_r _))
set_option maxHeartbeats 1000000 in
theorem L499c (h : aH S E w t σ σy d y) (c1 : ¬ fC w = 176) (c2 : ¬ fC w = 128) (c3 : ¬ fC w = 208) (hkd : ¬ vk (rgV S (dR w)) = 0) (hk : ¬ vk (rgtV S w) = 0) : okc (RR (lkB tb499) (B499_157, [some (mR (some 80)), some (mL w), none, some (mI (fOp w)), some (mI (fC w)), some (mI (b2 (wid w))), some (mI (b2 (rgt w))), some (mI (fO w)), some (mI (d : Int)), some (mI (y : Int)), none], [], σy)) none (fun τ => jpo σ τ (aluV S w t).1 (wV S (dR w) (aluV S w t).2.1) (gI σ 80 88) (gI σ 80 89) (aluV S w t).2.2) := by
  have hd := aH_d h
  have hy := aH_y h
  have h0 := aH_0 h
  have h' := h
  obtain ⟨⟨h1, h2, h3, h4⟩, ⟨h5, h6, h7⟩, ⟨h8, h9⟩, ⟨h10, h11, h12⟩, h13, h14, h15, h16, h17⟩ := h'
  have un : aluV S w t = if (wid w ∧ ¬ (isMb (rgV S (dR w)) ∨ isMb (rgtV S w))) ∧ (fC w = 0 ∨ fC w = 16) ∧ mvs (rgV S (dR w)) ∧ vk (rgtV S w) = 1 then shfV (rgV S (dR w)) (vn (rgtV S w)) (fC w) t
      else if (wid w ∧ ¬ (isMb (rgV S (dR w)) ∨ isMb (rgtV S w))) ∧ fC w = 0 ∧ vk (rgV S (dR w)) = 1 ∧ mvs (rgtV S w) then shfV (rgtV S w) (vn (rgV S (dR w))) (fC w) t
      else if ¬ wntN (rgV S (dR w)) (rgtV S w) = 0 then (wntN (rgV S (dR w)) (rgtV S w), unsV, t) else if wid w then (0, numV (opN (fC w) (fO w) (vn (rgV S (dR w))) (vn (rgtV S w))), t) else (0, numV (opW (fC w) (fO w) (vn (rgV S (dR w))) (vn (rgtV S w))), t) := by
    unfold aluV
    rw [if_neg c3, if_neg (fun q => hkd q.2), if_neg hk, if_neg c1, if_neg c2]
  have ht85 : gI σy 80 85 = t := (sqc_I h10 (by omega) (by omega)).trans h6
  have ht0 : 0 ≤ t := h2.2.2.2.2.2.2
  have nmd : mvs (rgV S (dR w)) → -4096 ≤ vo (rgV S (dR w)) ∧ vo (rgV S (dR w)) ≤ 4096 := h14.2.1
  have kd : 0 ≤ vk (rgV S (dR w)) ∧ vk (rgV S (dR w)) ≤ 10 := h14.1
  have k118d : gI σy 118 d = vk (rgV S (dR w)) := by rw [q118, h11]
  have k118y : gI σy 118 y = vk (rgtV S w) := by rw [q118, h12]
  have s296 : RR (lkB tb499) (B499_157, [some (mR (some 80)), some (mL w), none, some (mI (fOp w)), some (mI (fC w)), some (mI (b2 (wid w))), some (mI (b2 (rgt w))), some (mI (fO w)), some (mI (d : Int)), some (mI (y : Int)), none], [], σy) = RR (lkB tb499) (B499_296, [some (mR (some 80)), some (mL w), none, some (mI (fOp w)), some (mI (fC w)), some (mI (b2 (wid w))), some (mI (b2 (rgt w))), some (mI (fO w)), some (mI (d : Int)), some (mI (y : Int)), none], [mI (b2 (isMb (rgV S (dR w)) ∨ isMb (rgtV S w)))], σy) := by
    by_cases a : isMb (rgV S (dR w))
    · rw [b2_yes (p := isMb (rgV S (dR w)) ∨ isMb (rgtV S w)) (Or.inl a)]
      simp only [e499_157, e499_279, e499_291, Option.getD_some, Option.bind_some, Option.toList_some, Option.toList_none, List.cons_append, List.nil_append, and_self, and_true, true_and, false_and, and_false, ite_self, not_true_eq_false, not_false_eq_true, reduceIte, Nat.reduceEqDiff, ab_I, ab_L, ab_R, ao_I, ao_L, ao_R, gL_sL, gI_sI, gR_sR, gI_sL, gI_sR, gL_sI, gL_sR, gR_sI, gR_sL, h0, c1, c2, T493 hd.1, Int.toNat_natCast, h11, b2_n', a]
    · by_cases b : isMb (rgtV S w)
      · rw [b2_yes (p := isMb (rgV S (dR w)) ∨ isMb (rgtV S w)) (Or.inr b)]
        simp only [e499_157, e499_279, e499_288, e499_291, Option.getD_some, Option.bind_some, Option.toList_some, Option.toList_none, List.cons_append, List.nil_append, and_self, and_true, true_and, false_and, and_false, ite_self, not_true_eq_false, not_false_eq_true, reduceIte, Nat.reduceEqDiff, ab_I, ab_L, ab_R, ao_I, ao_L, ao_R, gL_sL, gI_sI, gR_sR, gI_sL, gI_sR, gL_sI, gL_sR, gR_sI, gR_sL, h0, c1, c2, T493 hd.1, T493 hy, Int.toNat_natCast, h11, h12, b2_n', b2_0', a, b]
      · rw [b2_no (p := isMb (rgV S (dR w)) ∨ isMb (rgtV S w)) (fun q => q.elim a b)]
        simp only [e499_157, e499_279, e499_288, e499_291, Option.getD_some, Option.bind_some, Option.toList_some, Option.toList_none, List.cons_append, List.nil_append, and_self, and_true, true_and, false_and, and_false, ite_self, not_true_eq_false, not_false_eq_true, reduceIte, Nat.reduceEqDiff, ab_I, ab_L, ab_R, ao_I, ao_L, ao_R, gL_sL, gI_sI, gR_sR, gI_sL, gI_sR, gL_sI, gL_sR, gR_sI, gR_sL, h0, c1, c2, T493 hd.1, T493 hy, Int.toNat_natCast, h11, h12, b2_n', b2_0', a, b]
  rw [s296]
  by_cases A : (wid w ∧ ¬ (isMb (rgV S (dR w)) ∨ isMb (rgtV S w))) ∧ (fC w = 0 ∨ fC w = 16) ∧ mvs (rgV S (dR w)) ∧ vk (rgtV S w) = 1
  · obtain ⟨⟨a1, a2⟩, a3, a4, a5⟩ := A
    rw [if_pos ⟨⟨a1, a2⟩, a3, a4, a5⟩] at un
    have s320 : RR (lkB tb499) (B499_296, [some (mR (some 80)), some (mL w), none, some (mI (fOp w)), some (mI (fC w)), some (mI (b2 (wid w))), some (mI (b2 (rgt w))), some (mI (fO w)), some (mI (d : Int)), some (mI (y : Int)), none], [mI (b2 (isMb (rgV S (dR w)) ∨ isMb (rgtV S w)))], σy) = RR (lkB tb499) (B499_320, [some (mR (some 80)), some (mL w), none, some (mI (fOp w)), some (mI (fC w)), some (mI (b2 (wid w))), some (mI (b2 (rgt w))), some (mI (fO w)), some (mI (d : Int)), some (mI (y : Int)), some (mI (b2 (isMb (rgV S (dR w)) ∨ isMb (rgtV S w))))], [], σy) := by
      rcases a3 with a3 | a3
      · simp only [e499_296, Option.getD_some, Option.bind_some, Option.toList_some, Option.toList_none, List.cons_append, List.nil_append, and_self, and_true, true_and, false_and, and_false, ite_self, not_true_eq_false, not_false_eq_true, reduceIte, Nat.reduceEqDiff, ab_I, ab_L, ab_R, ao_I, ao_L, ao_R, gL_sL, gI_sI, gR_sR, gI_sL, gI_sR, gL_sI, gL_sR, gR_sI, gR_sL, b2_0', b2_n', eq_true a1, a2, a3]
      · simp only [e499_296, Option.getD_some, Option.bind_some, Option.toList_some, Option.toList_none, List.cons_append, List.nil_append, and_self, and_true, true_and, false_and, and_false, ite_self, not_true_eq_false, not_false_eq_true, reduceIte, Nat.reduceEqDiff, ab_I, ab_L, ab_R, ao_I, ao_L, ao_R, gL_sL, gI_sI, gR_sR, gI_sL, gI_sR, gL_sI, gL_sR, gR_sI, gR_sL, b2_0', b2_n', eq_true a1, a2, a3, Int.reduceEq]
    have t2 := T502 (σ := σy) (d := (d : Int)) (x := (d : Int)) (n := (y : Int)) (c := fC w) hd.1 hd.1 hy (by omega) (by omega) (by omega) a3 h0 (by rw [Int.toNat_natCast, h11]; exact a4) (by rw [Int.toNat_natCast, h11]; exact nmd a4) (by rw [Int.toNat_natCast, h12]; omega) (by omega)
    rw [s320]
    simp only [e499_320, e499_326, Option.getD_some, Option.bind_some, Option.toList_some, Option.toList_none, List.cons_append, List.nil_append, and_self, and_true, true_and, false_and, and_false, ite_self, not_true_eq_false, not_false_eq_true, reduceIte, Nat.reduceEqDiff, ab_I, ab_L, ab_R, ao_I, ao_L, ao_R, gL_sL, gI_sI, gR_sR, gI_sL, gI_sR, gL_sI, gL_sR, gR_sI, gR_sL, T498 hd.1, Int.toNat_natCast, h11, b2_0', a4, g_118, hy.1, hy.2, k118y, a5]
    refine okc_b t2 fun τ q => ?_
    simp only [Option.toList_none, List.nil_append, e499_352, e499_473]
    refine okc_s ?_
    simp only [Int.toNat_natCast, h11, h12, ht85] at q
    rw [un]
    by_cases f : (shfV (rgV S (dR w)) (vn (rgtV S w)) (fC w) t).1 = 0
    · rw [if_pos f] at q
      rw [f]
      exact aH_ok h q
    · rw [if_neg f] at q
      exact aH_no h f q
  · rw [if_neg A] at un
    have s355 : RR (lkB tb499) (B499_296, [some (mR (some 80)), some (mL w), none, some (mI (fOp w)), some (mI (fC w)), some (mI (b2 (wid w))), some (mI (b2 (rgt w))), some (mI (fO w)), some (mI (d : Int)), some (mI (y : Int)), none], [mI (b2 (isMb (rgV S (dR w)) ∨ isMb (rgtV S w)))], σy) = RR (lkB tb499) (B499_355, [some (mR (some 80)), some (mL w), none, some (mI (fOp w)), some (mI (fC w)), some (mI (b2 (wid w))), some (mI (b2 (rgt w))), some (mI (fO w)), some (mI (d : Int)), some (mI (y : Int)), some (mI (b2 (isMb (rgV S (dR w)) ∨ isMb (rgtV S w))))], [], σy) := by
      by_cases a1 : wid w
      · by_cases a2 : isMb (rgV S (dR w)) ∨ isMb (rgtV S w)
        · simp only [e499_296, Option.getD_some, Option.bind_some, Option.toList_some, Option.toList_none, List.cons_append, List.nil_append, and_self, and_true, true_and, false_and, and_false, ite_self, not_true_eq_false, not_false_eq_true, reduceIte, Nat.reduceEqDiff, ab_I, ab_L, ab_R, ao_I, ao_L, ao_R, gL_sL, gI_sI, gR_sR, gI_sL, gI_sR, gL_sI, gL_sR, gR_sI, gR_sL, b2_0', b2_n', eq_true a1, a2]
        · by_cases a3 : fC w = 0 ∨ fC w = 16
          · have s320 : RR (lkB tb499) (B499_296, [some (mR (some 80)), some (mL w), none, some (mI (fOp w)), some (mI (fC w)), some (mI (b2 (wid w))), some (mI (b2 (rgt w))), some (mI (fO w)), some (mI (d : Int)), some (mI (y : Int)), none], [mI (b2 (isMb (rgV S (dR w)) ∨ isMb (rgtV S w)))], σy) = RR (lkB tb499) (B499_320, [some (mR (some 80)), some (mL w), none, some (mI (fOp w)), some (mI (fC w)), some (mI (b2 (wid w))), some (mI (b2 (rgt w))), some (mI (fO w)), some (mI (d : Int)), some (mI (y : Int)), some (mI (b2 (isMb (rgV S (dR w)) ∨ isMb (rgtV S w))))], [], σy) := by
              rcases a3 with a3 | a3
              · simp only [e499_296, Option.getD_some, Option.bind_some, Option.toList_some, Option.toList_none, List.cons_append, List.nil_append, and_self, and_true, true_and, false_and, and_false, ite_self, not_true_eq_false, not_false_eq_true, reduceIte, Nat.reduceEqDiff, ab_I, ab_L, ab_R, ao_I, ao_L, ao_R, gL_sL, gI_sI, gR_sR, gI_sL, gI_sR, gL_sI, gL_sR, gR_sI, gR_sL, b2_0', b2_n', eq_true a1, a2, a3]
              · simp only [e499_296, Option.getD_some, Option.bind_some, Option.toList_some, Option.toList_none, List.cons_append, List.nil_append, and_self, and_true, true_and, false_and, and_false, ite_self, not_true_eq_false, not_false_eq_true, reduceIte, Nat.reduceEqDiff, ab_I, ab_L, ab_R, ao_I, ao_L, ao_R, gL_sL, gI_sI, gR_sR, gI_sL, gI_sR, gL_sI, gL_sR, gR_sI, gR_sL, b2_0', b2_n', eq_true a1, a2, a3, Int.reduceEq]
            rw [s320]
            by_cases a4 : mvs (rgV S (dR w))
            · have a5 : ¬ vk (rgtV S w) = 1 := fun z => A ⟨⟨a1, a2⟩, a3, a4, z⟩
              simp only [e499_320, e499_326, Option.getD_some, Option.bind_some, Option.toList_some, Option.toList_none, List.cons_append, List.nil_append, and_self, and_true, true_and, false_and, and_false, ite_self, not_true_eq_false, not_false_eq_true, reduceIte, Nat.reduceEqDiff, ab_I, ab_L, ab_R, ao_I, ao_L, ao_R, gL_sL, gI_sI, gR_sR, gI_sL, gI_sR, gL_sI, gL_sR, gR_sI, gR_sL, T498 hd.1, Int.toNat_natCast, h11, b2_0', a4, g_118, hy.1, hy.2, k118y, a5]
            · simp only [e499_320, e499_326, Option.getD_some, Option.bind_some, Option.toList_some, Option.toList_none, List.cons_append, List.nil_append, and_self, and_true, true_and, false_and, and_false, ite_self, not_true_eq_false, not_false_eq_true, reduceIte, Nat.reduceEqDiff, ab_I, ab_L, ab_R, ao_I, ao_L, ao_R, gL_sL, gI_sI, gR_sR, gI_sL, gI_sR, gL_sI, gL_sR, gR_sI, gR_sL, T498 hd.1, Int.toNat_natCast, h11, b2_0', a4]
          · have n1 : ¬ fC w = 0 := fun z => a3 (Or.inl z)
            have n2 : ¬ fC w = 16 := fun z => a3 (Or.inr z)
            simp only [e499_296, Option.getD_some, Option.bind_some, Option.toList_some, Option.toList_none, List.cons_append, List.nil_append, and_self, and_true, true_and, false_and, and_false, ite_self, not_true_eq_false, not_false_eq_true, reduceIte, Nat.reduceEqDiff, ab_I, ab_L, ab_R, ao_I, ao_L, ao_R, gL_sL, gI_sI, gR_sR, gI_sL, gI_sR, gL_sI, gL_sR, gR_sI, gR_sL, b2_0', b2_n', eq_true a1, a2, n1, n2]
      · simp only [e499_296, Option.getD_some, Option.bind_some, Option.toList_some, Option.toList_none, List.cons_append, List.nil_append, and_self, and_true, true_and, false_and, and_false, ite_self, not_true_eq_false, not_false_eq_true, reduceIte, Nat.reduceEqDiff, ab_I, ab_L, ab_R, ao_I, ao_L, ao_R, gL_sL, gI_sI, gR_sR, gI_sL, gI_sR, gL_sI, gL_sR, gR_sI, gR_sL, b2_0', b2_n', a1]
    rw [s355]
    by_cases B : (wid w ∧ ¬ (isMb (rgV S (dR w)) ∨ isMb (rgtV S w))) ∧ fC w = 0 ∧ vk (rgV S (dR w)) = 1 ∧ mvs (rgtV S w)
    · obtain ⟨⟨a1, a2⟩, a3, a4, a5⟩ := B
      rw [if_pos ⟨⟨a1, a2⟩, a3, a4, a5⟩] at un
      have bX : inB 32656 := by decide
      have nX : ¬ y = (32656 : Int).toNat := by omega
      generalize hρ : wrV σy (32656 : Int).toNat (rgV S (dR w)) = ρ
      have r1 : sqc ρ σy := by rw [← hρ]; exact sqc_w (by decide)
      have r2 : aV ρ (32656 : Int).toNat = (rgV S (dR w)) := by rw [← hρ, aV_same]
      have r3 : aV ρ y = (rgtV S w) := by rw [← hρ, aV_ne nX, h12]
      have r4 : gI ρ 80 90 = 0 := (sqc_I r1 (by omega) (by omega)).trans h0
      have r5 : gI ρ 80 85 = t := (sqc_I r1 (by omega) (by omega)).trans ht85
      have s399 : RR (lkB tb499) (B499_355, [some (mR (some 80)), some (mL w), none, some (mI (fOp w)), some (mI (fC w)), some (mI (b2 (wid w))), some (mI (b2 (rgt w))), some (mI (fO w)), some (mI (d : Int)), some (mI (y : Int)), some (mI (b2 (isMb (rgV S (dR w)) ∨ isMb (rgtV S w))))], [], σy) = RR (lkB tb499) (B499_399, [some (mR (some 80)), some (mL w), none, some (mI (fOp w)), some (mI (fC w)), some (mI (b2 (wid w))), some (mI (b2 (rgt w))), some (mI (fO w)), some (mI (d : Int)), some (mI (y : Int)), some (mI (b2 (isMb (rgV S (dR w)) ∨ isMb (rgtV S w))))], [], ρ) := by
        simp only [e499_355, e499_387, Option.getD_some, Option.bind_some, Option.toList_some, Option.toList_none, List.cons_append, List.nil_append, and_self, and_true, true_and, false_and, and_false, ite_self, not_true_eq_false, not_false_eq_true, reduceIte, Nat.reduceEqDiff, ab_I, ab_L, ab_R, ao_I, ao_L, ao_R, gL_sL, gI_sI, gR_sR, gI_sL, gI_sR, gL_sI, gL_sR, gR_sI, gR_sL, b2_0', b2_n', eq_true a1, a2, a3, g_118, hd.1.1, hd.1.2, Int.toNat_natCast, k118d, a4, T498 hy, h12, a5]
        rw [T430 hd.1 bX (by rw [Int.toNat_natCast, h11]; omega)]
        simp only [Option.getD_some, Option.bind_some, Option.toList_some, Option.toList_none, List.cons_append, List.nil_append, and_self, and_true, true_and, false_and, and_false, ite_self, not_true_eq_false, not_false_eq_true, reduceIte, Nat.reduceEqDiff, ab_I, ab_L, ab_R, ao_I, ao_L, ao_R, gL_sL, gI_sI, gR_sR, gI_sL, gI_sR, gL_sI, gL_sR, gR_sI, gR_sL, Int.toNat_natCast, h11, hρ]
      have t2 := T502 (σ := ρ) (d := (d : Int)) (x := (y : Int)) (n := 32656) (c := fC w) hd.1 hy bX (by omega) (by omega) (by omega) (Or.inl a3) r4 (by rw [Int.toNat_natCast, r3]; exact a5) (by rw [Int.toNat_natCast, r3]; exact h17 a5) (by rw [r2]; omega) (by omega)
      rw [s399]
      simp only [e499_399, Option.getD_some, Option.bind_some, Option.toList_some, Option.toList_none, List.cons_append, List.nil_append, and_self, and_true, true_and, false_and, and_false, ite_self, not_true_eq_false, not_false_eq_true, reduceIte, Nat.reduceEqDiff, ab_I, ab_L, ab_R, ao_I, ao_L, ao_R, gL_sL, gI_sI, gR_sR, gI_sL, gI_sR, gL_sI, gL_sR, gR_sI, gR_sL]
      refine okc_b t2 fun τ q => ?_
      simp only [Option.toList_none, List.nil_append, e499_412, e499_473]
      refine okc_s ?_
      simp only [Int.toNat_natCast, r2, r3, r5] at q
      rw [un]
      by_cases f : (shfV (rgtV S w) (vn (rgV S (dR w))) (fC w) t).1 = 0
      · rw [if_pos f] at q
        rw [f]
        exact aH_ok h (sqc_t q (sqc_wV (sqc_sI r1)))
      · rw [if_neg f] at q
        exact aH_no h f (sqc_t q (sqc_flt r1))
    · rw [if_neg B] at un
      have s415 : RR (lkB tb499) (B499_355, [some (mR (some 80)), some (mL w), none, some (mI (fOp w)), some (mI (fC w)), some (mI (b2 (wid w))), some (mI (b2 (rgt w))), some (mI (fO w)), some (mI (d : Int)), some (mI (y : Int)), some (mI (b2 (isMb (rgV S (dR w)) ∨ isMb (rgtV S w))))], [], σy) = RR (lkB tb499) (B499_415, [some (mR (some 80)), some (mL w), none, some (mI (fOp w)), some (mI (fC w)), some (mI (b2 (wid w))), some (mI (b2 (rgt w))), some (mI (fO w)), some (mI (d : Int)), some (mI (y : Int)), some (mI (b2 (isMb (rgV S (dR w)) ∨ isMb (rgtV S w))))], [], σy) := by
        by_cases a1 : wid w
        · by_cases a2 : isMb (rgV S (dR w)) ∨ isMb (rgtV S w)
          · simp only [e499_355, Option.getD_some, Option.bind_some, Option.toList_some, Option.toList_none, List.cons_append, List.nil_append, and_self, and_true, true_and, false_and, and_false, ite_self, not_true_eq_false, not_false_eq_true, reduceIte, Nat.reduceEqDiff, ab_I, ab_L, ab_R, ao_I, ao_L, ao_R, gL_sL, gI_sI, gR_sR, gI_sL, gI_sR, gL_sI, gL_sR, gR_sI, gR_sL, b2_0', b2_n', eq_true a1, a2]
          · by_cases a3 : fC w = 0
            · by_cases a4 : vk (rgV S (dR w)) = 1
              · have a5 : ¬ mvs (rgtV S w) := fun z => B ⟨⟨a1, a2⟩, a3, a4, z⟩
                simp only [e499_355, e499_387, Option.getD_some, Option.bind_some, Option.toList_some, Option.toList_none, List.cons_append, List.nil_append, and_self, and_true, true_and, false_and, and_false, ite_self, not_true_eq_false, not_false_eq_true, reduceIte, Nat.reduceEqDiff, ab_I, ab_L, ab_R, ao_I, ao_L, ao_R, gL_sL, gI_sI, gR_sR, gI_sL, gI_sR, gL_sI, gL_sR, gR_sI, gR_sL, b2_0', b2_n', eq_true a1, a2, a3, g_118, hd.1.1, hd.1.2, Int.toNat_natCast, k118d, a4, T498 hy, h12, a5]
              · simp only [e499_355, Option.getD_some, Option.bind_some, Option.toList_some, Option.toList_none, List.cons_append, List.nil_append, and_self, and_true, true_and, false_and, and_false, ite_self, not_true_eq_false, not_false_eq_true, reduceIte, Nat.reduceEqDiff, ab_I, ab_L, ab_R, ao_I, ao_L, ao_R, gL_sL, gI_sI, gR_sR, gI_sL, gI_sR, gL_sI, gL_sR, gR_sI, gR_sL, b2_0', b2_n', eq_true a1, a2, a3, g_118, hd.1.1, hd.1.2, Int.toNat_natCast, k118d, a4]
            · simp only [e499_355, Option.getD_some, Option.bind_some, Option.toList_some, Option.toList_none, List.cons_append, List.nil_append, and_self, and_true, true_and, false_and, and_false, ite_self, not_true_eq_false, not_false_eq_true, reduceIte, Nat.reduceEqDiff, ab_I, ab_L, ab_R, ao_I, ao_L, ao_R, gL_sL, gI_sI, gR_sR, gI_sL, gI_sR, gL_sI, gL_sR, gR_sI, gR_sL, b2_0', b2_n', eq_true a1, a2, a3]
        · simp only [e499_355, Option.getD_some, Option.bind_some, Option.toList_some, Option.toList_none, List.cons_append, List.nil_append, and_self, and_true, true_and, false_and, and_false, ite_self, not_true_eq_false, not_false_eq_true, reduceIte, Nat.reduceEqDiff, ab_I, ab_L, ab_R, ao_I, ao_L, ao_R, gL_sL, gI_sI, gR_sR, gI_sL, gI_sR, gL_sI, gL_sR, gR_sI, gR_sL, b2_0', b2_n', a1]
      rw [s415]
      exact L499n h c1 c2 c3 un _
end ALU
-- FILE 38a.alu2
/-! ===== the reference's judge: ALU, from its beginning ===== -/
theorem wrV_flt {σ : MS} {i : Nat} {v : VL} {c : Int} : wrV (flt σ c) i v = flt (wrV σ i v) c := by
  unfold flt
  rw [wrV_sI (by decide), gW80]
theorem mk_flt {σ : MS} {r c : Int} : mk10 (flt σ c) r = flt (mk10 σ r) c := by
  unfold mk10
  split
  · rw [fl_o (by omega), wrV_flt]
  · rfl
theorem okV_3 {E : EV} {g : Nat} {t : Int} {v : VL} (h : okV E g t v) (hg : g ≤ 3) : okV E 3 t v := by
  obtain ⟨h1, h2, h3, h4⟩ := h
  exact ⟨h1, h2, fun k => ⟨(h3 k).1, by have := (h3 k).2; omega⟩, h4⟩
theorem okV_ten {E : EV} {t : Int} {F : Nat} (hF : 1 ≤ F ∧ F ≤ 4) : okV E 3 t (mkV 3 ((F : Int) - 1) 0) := by
  have k : vk (mkV 3 ((F : Int) - 1) 0) = 3 := rfl
  have w : vw (mkV 3 ((F : Int) - 1) 0) = (F : Int) - 1 := rfl
  have o : vo (mkV 3 ((F : Int) - 1) 0) = 0 := rfl
  refine ⟨by omega, fun _ => by omega, fun _ => by omega, fun q => ?_, fun q => ?_, fun q => ?_, fun q => ?_, fun q => ?_, fun q => ?_, fun q => ?_⟩ <;> (exfalso; omega)
theorem okV_r {E : EV} {t : Int} {S : ST} (h : okS E t S) {r : Nat} (hr : r ≤ 10) : okV E 3 t (rgV S r) := by
  have hF := h.1
  unfold rgV
  split
  · exact okV_ten hF
  · exact okV_3 (h.2.1 _ (by omega)) (by omega)
set_option maxHeartbeats 1000000 in
theorem T499 {w : B64} {S : ST} {E : EV} {t : Int} {σ : MS} (hJ : J0 σ S) (ho : okS E t S) (hw : okAlu w) (hl : fL w = 4 ∨ fL w = 7) (h0 : gI σ 80 90 = 0) (ht : gI σ 80 85 = t) (ht2 : t < 1000000) : okc (MM 499 [mR (some 80), mL w, mI (fOp w)] σ) none (fun τ => jpo σ τ (aluV S w t).1 (wV S (dR w) (aluV S w t).2.1) (gI σ 80 88) (gI σ 80 89) (aluV S w t).2.2) := by
  have hF := ho.1
  have f := fld_rng w
  have f1 : 0 ≤ fD w := f.2.1.1
  have f2 : 0 ≤ fS w := f.2.2.1.1
  have hd9 : fD w ≤ 9 := hw.1.1
  have hd : dR w ≤ 9 := by unfold dR; omega
  generalize ed : 26 * (sF S - 1) + dR w = d
  have ep : plc (gI σ 123 0) (fD w) = d := by rw [plc_9 hJ.1 hF.1 f1 hd9, ← ed]
  have id : inB (d : Int) := ⟨by omega, by omega⟩
  have vd : aV σ d = (rgV S (dR w)) := by
    have := at_v hJ hF (r := fD w) ⟨f1, by omega⟩
    rwa [mkr_9 hd9, ep] at this
  have okD : okV E 3 t (rgV S (dR w)) := okV_r ho (by omega)
  have e85 : sI σ 80 85 t = σ := by rw [← ht]; exact sI_eta _ _ _
  have s51 : MM 499 [mR (some 80), mL w, mI (fOp w)] σ = RR (lkB tb499) (B499_51, [some (mR (some 80)), some (mL w), none, some (mI (fOp w)), some (mI (fC w)), some (mI (b2 (wid w))), some (mI (b2 (rgt w))), some (mI (fO w)), none, none, none], [mI (d : Int)], σ) := by
    have t9 := T492 (σ := σ) (r := fD w) ⟨f1, by omega⟩ (by rw [hJ.1]; omega)
    rw [ep, mkr_9 hd9] at t9
    by_cases a : fL w = 7
    · rw [wid_l a]
      by_cases b : rgt w
      · rw [b2_yes b]
        simp only [M499, e499_0, e499_21, e499_35, e499_41, e499_48, Option.getD_some, Option.bind_some, Option.toList_some, Option.toList_none, List.cons_append, List.nil_append, and_self, and_true, true_and, false_and, and_false, ite_self, not_true_eq_false, not_false_eq_true, reduceIte, Nat.reduceEqDiff, ab_I, ab_L, ab_R, ao_I, ao_L, ao_R, gL_sL, gI_sI, gR_sR, gI_sL, gI_sR, gL_sI, gL_sR, gR_sI, gR_sL, m7, m8r, mC, a, eq_true b, T335, T333, t9]
      · rw [b2_no b]
        simp only [M499, e499_0, e499_21, e499_35, e499_41, e499_48, Option.getD_some, Option.bind_some, Option.toList_some, Option.toList_none, List.cons_append, List.nil_append, and_self, and_true, true_and, false_and, and_false, ite_self, not_true_eq_false, not_false_eq_true, reduceIte, Nat.reduceEqDiff, ab_I, ab_L, ab_R, ao_I, ao_L, ao_R, gL_sL, gI_sI, gR_sR, gI_sL, gI_sR, gL_sI, gL_sR, gR_sI, gR_sL, m7, m8r, mC, a, b, T335, T333, t9]
    · rw [wid_n a]
      by_cases b : rgt w
      · rw [b2_yes b]
        simp only [M499, e499_0, e499_21, e499_35, e499_41, e499_48, Option.getD_some, Option.bind_some, Option.toList_some, Option.toList_none, List.cons_append, List.nil_append, and_self, and_true, true_and, false_and, and_false, ite_self, not_true_eq_false, not_false_eq_true, reduceIte, Nat.reduceEqDiff, ab_I, ab_L, ab_R, ao_I, ao_L, ao_R, gL_sL, gI_sI, gR_sR, gI_sL, gI_sR, gL_sI, gL_sR, gR_sI, gR_sL, m7, m8r, mC, a, eq_true b, T335, T333, t9]
      · rw [b2_no b]
        simp only [M499, e499_0, e499_21, e499_35, e499_41, e499_48, Option.getD_some, Option.bind_some, Option.toList_some, Option.toList_none, List.cons_append, List.nil_append, and_self, and_true, true_and, false_and, and_false, ite_self, not_true_eq_false, not_false_eq_true, reduceIte, Nat.reduceEqDiff, ab_I, ab_L, ab_R, ao_I, ao_L, ao_R, gL_sL, gI_sI, gR_sR, gI_sL, gI_sR, gL_sI, gL_sR, gR_sI, gR_sL, m7, m8r, mC, a, b, T335, T333, t9]
  rw [s51]
  by_cases c3 : fC w = 208
  · have hb : fI w = 16 ∨ fI w = 32 ∨ fI w = 64 := by
      have := hw.2
      rw [if_pos c3] at this
      exact this.2.2.2
    have un : aluV S w t = if ¬ fst (wntS (rgV S (dR w))) (wntN (rgV S (dR w)) (rgV S (dR w))) = 0 then (fst (wntS (rgV S (dR w))) (wntN (rgV S (dR w)) (rgV S (dR w))), unsV, t) else (0, numV (trnN (decide (fOp w = 212)) (fI w).toNat (vn (rgV S (dR w)))), t) := by
      unfold aluV
      rw [if_pos c3]
    have s75 : RR (lkB tb499) (B499_51, [some (mR (some 80)), some (mL w), none, some (mI (fOp w)), some (mI (fC w)), some (mI (b2 (wid w))), some (mI (b2 (rgt w))), some (mI (fO w)), none, none, none], [mI (d : Int)], σ) = RR (lkB tb499) (B499_75, [some (mR (some 80)), some (mL w), none, some (mI (fOp w)), some (mI (fC w)), some (mI (b2 (wid w))), some (mI (b2 (rgt w))), some (mI (fO w)), some (mI (d : Int)), none, none], [], flt σ (fst (wntS (rgV S (dR w))) (wntN (rgV S (dR w)) (rgV S (dR w))))) := by
      simp only [e499_51, e499_67, Option.getD_some, Option.bind_some, Option.toList_some, Option.toList_none, List.cons_append, List.nil_append, and_self, and_true, true_and, false_and, and_false, ite_self, not_true_eq_false, not_false_eq_true, reduceIte, Nat.reduceEqDiff, ab_I, ab_L, ab_R, ao_I, ao_L, ao_R, gL_sL, gI_sI, gR_sR, gI_sL, gI_sR, gL_sI, gL_sR, gR_sI, gR_sL, c3, T494 id, T497 id id, Int.toNat_natCast, aV_flt, vd, flt_flt]
    rw [s75, un]
    by_cases z : fst (wntS (rgV S (dR w))) (wntN (rgV S (dR w)) (rgV S (dR w))) = 0
    · rw [z, flt_0, if_neg (not_not_intro rfl)]
      simp only [e499_75, e499_90, e499_93, Option.getD_some, Option.bind_some, Option.toList_some, Option.toList_none, List.cons_append, List.nil_append, and_self, and_true, true_and, false_and, and_false, ite_self, not_true_eq_false, not_false_eq_true, reduceIte, Nat.reduceEqDiff, ab_I, ab_L, ab_R, ao_I, ao_L, ao_R, gL_sL, gI_sI, gR_sR, gI_sL, gI_sR, gL_sI, gL_sR, gR_sI, gR_sL, h0, T336, T500 id hb, Int.toNat_natCast, vd]
      refine okc_s (jpo_w h0 hJ hF.2 (k := d) (by omega) (by rw [← ed]; rfl) ?_)
      rw [e85]
      exact sqc_r _
    · rw [if_pos z]
      have g : ¬ gI (flt σ (fst (wntS (rgV S (dR w))) (wntN (rgV S (dR w)) (rgV S (dR w))))) 80 90 = 0 := by rw [fl_g, h0, fst0]; exact z
      simp only [e499_75, e499_93, Option.getD_some, Option.bind_some, Option.toList_some, Option.toList_none, List.cons_append, List.nil_append, and_self, and_true, true_and, false_and, and_false, ite_self, not_true_eq_false, not_false_eq_true, reduceIte, Nat.reduceEqDiff, ab_I, ab_L, ab_R, ao_I, ao_L, ao_R, gL_sL, gI_sI, gR_sR, gI_sL, gI_sR, gL_sI, gL_sR, gR_sI, gR_sL, g]
      exact okc_s (jpo_f z h0 (sqc_r _))
  · generalize ea : (if fC w = 176 then (0 : Int) else wntS (rgV S (dR w))) = fa
    have s108 : RR (lkB tb499) (B499_51, [some (mR (some 80)), some (mL w), none, some (mI (fOp w)), some (mI (fC w)), some (mI (b2 (wid w))), some (mI (b2 (rgt w))), some (mI (fO w)), none, none, none], [mI (d : Int)], σ) = RR (lkB tb499) (B499_108, [some (mR (some 80)), some (mL w), none, some (mI (fOp w)), some (mI (fC w)), some (mI (b2 (wid w))), some (mI (b2 (rgt w))), some (mI (fO w)), some (mI (d : Int)), none, none], [], flt σ fa) := by
      by_cases c1 : fC w = 176
      · rw [if_pos c1] at ea
        rw [← ea, flt_0]
        simp only [e499_51, Option.getD_some, Option.bind_some, Option.toList_some, Option.toList_none, List.cons_append, List.nil_append, and_self, and_true, true_and, false_and, and_false, ite_self, not_true_eq_false, not_false_eq_true, reduceIte, Nat.reduceEqDiff, ab_I, ab_L, ab_R, ao_I, ao_L, ao_R, gL_sL, gI_sI, gR_sR, gI_sL, gI_sR, gL_sI, gL_sR, gR_sI, gR_sL, c1, Int.reduceEq]
      · rw [if_neg c1] at ea
        rw [← ea]
        simp only [e499_51, Option.getD_some, Option.bind_some, Option.toList_some, Option.toList_none, List.cons_append, List.nil_append, and_self, and_true, true_and, false_and, and_false, ite_self, not_true_eq_false, not_false_eq_true, reduceIte, Nat.reduceEqDiff, ab_I, ab_L, ab_R, ao_I, ao_L, ao_R, gL_sL, gI_sI, gR_sR, gI_sL, gI_sR, gL_sI, gL_sR, gR_sI, gR_sL, c1, c3, T494 id, Int.toNat_natCast, vd]
    rw [s108]
    have key : ∀ (y : Nat) (σy : MS), sqc σy σ → aV σy d = (rgV S (dR w)) → aV σy y = (rgtV S w) → (y < 104 ∨ y = 32657 ∨ y = 32663) → (0 ≤ vk (rgtV S w) ∧ vk (rgtV S w) ≤ 10 ∧ (mvs (rgtV S w) → -4096 ≤ vo (rgtV S w) ∧ vo (rgtV S w) ≤ 4096)) → okc (RR (lkB tb499) (B499_157, [some (mR (some 80)), some (mL w), none, some (mI (fOp w)), some (mI (fC w)), some (mI (b2 (wid w))), some (mI (b2 (rgt w))), some (mI (fO w)), some (mI (d : Int)), some (mI (y : Int)), none], [], flt σy (fst fa (wntS (rgtV S w))))) none (fun τ => jpo σ τ (aluV S w t).1 (wV S (dR w) (aluV S w t).2.1) (gI σ 80 88) (gI σ 80 89) (aluV S w t).2.2) := by
      intro y σy q1 q2 q3 q4 q5
      have H : aH S E w t σ σy d y := ⟨⟨hJ, ho, hw, hl⟩, ⟨h0, ht, ht2⟩, ⟨ed.symm, hd⟩, ⟨q1, q2, q3⟩, q4, okD, q5⟩
      have bad : aluV S w t = (3, unsV, t) → fst fa (wntS (rgtV S w)) = 3 → okc (RR (lkB tb499) (B499_157, [some (mR (some 80)), some (mL w), none, some (mI (fOp w)), some (mI (fC w)), some (mI (b2 (wid w))), some (mI (b2 (rgt w))), some (mI (fO w)), some (mI (d : Int)), some (mI (y : Int)), none], [], flt σy (fst fa (wntS (rgtV S w))))) none (fun τ => jpo σ τ (aluV S w t).1 (wV S (dR w) (aluV S w t).2.1) (gI σ 80 88) (gI σ 80 89) (aluV S w t).2.2) := fun u1 u2 => by
        have g : ¬ gI (flt σy 3) 80 90 = 0 := by rw [fl_g, aH_0 H, fst0]; decide
        rw [u1, u2]
        simp only [e499_157, Option.getD_some, Option.bind_some, Option.toList_some, Option.toList_none, List.cons_append, List.nil_append, and_self, and_true, true_and, false_and, and_false, ite_self, not_true_eq_false, not_false_eq_true, reduceIte, Nat.reduceEqDiff, ab_I, ab_L, ab_R, ao_I, ao_L, ao_R, gL_sL, gI_sI, gR_sR, gI_sL, gI_sR, gL_sI, gL_sR, gR_sI, gR_sL, g]
        exact okc_s (aH_no H (by decide) (sqc_r _))
      by_cases kd : ¬ fC w = 176 ∧ vk (rgV S (dR w)) = 0
      · have e1 : fa = 3 := by
          rw [← ea, if_neg kd.1]
          exact if_pos kd.2
        refine bad ?_ ?_
        · unfold aluV
          rw [if_neg c3, if_pos kd]
        · rw [e1]
          rfl
      · have e1 : fa = 0 := by
          rw [← ea]
          split
          · rfl
          · rename_i c
            exact if_neg (fun z => kd ⟨c, z⟩)
        by_cases ky : vk (rgtV S w) = 0
        · refine bad ?_ ?_
          · unfold aluV
            rw [if_neg c3, if_neg kd, if_pos ky]
          · rw [e1, fst0]
            exact if_pos ky
        · have e2 : fst fa (wntS (rgtV S w)) = 0 := by
            rw [e1, fst0]
            exact if_neg ky
          rw [e2, flt_0]
          by_cases c1 : fC w = 176
          · exact L499a H c1 ky
          · have kd' : ¬ vk (rgV S (dR w)) = 0 := fun z => kd ⟨c1, z⟩
            by_cases c2 : fC w = 128
            · exact L499b H c2 kd' ky
            · exact L499c H c1 c2 c3 kd' ky
    by_cases b : rgt w
    · have hs : fS w ≤ 10 := by
        have := hw.2
        rw [if_neg c3] at this
        by_cases c2 : fC w = 128
        · rw [if_pos c2] at this
          exact absurd b this.1
        · rw [if_neg c2, if_pos b] at this
          exact this.1.1
      have eY : (rgtV S w) = rgV S (sRr w) := if_pos b
      have okY : okV E 3 t (rgtV S w) := by rw [eY]; exact okV_r ho (by unfold sRr; omega)
      have t9 := T492 (σ := flt σ fa) (r := fS w) ⟨f2, hs⟩ (by rw [fl_o (by omega), hJ.1]; omega)
      rw [fl_o (by omega), mk_flt] at t9
      have iy := plc_b hJ.1 hF (r := fS w) ⟨f2, hs⟩
      have s157 : RR (lkB tb499) (B499_108, [some (mR (some 80)), some (mL w), none, some (mI (fOp w)), some (mI (fC w)), some (mI (b2 (wid w))), some (mI (b2 (rgt w))), some (mI (fO w)), some (mI (d : Int)), none, none], [], flt σ fa) = RR (lkB tb499) (B499_157, [some (mR (some 80)), some (mL w), none, some (mI (fOp w)), some (mI (fC w)), some (mI (b2 (wid w))), some (mI (b2 (rgt w))), some (mI (fO w)), some (mI (d : Int)), some (mI ((plc (gI σ 123 0) (fS w) : Nat) : Int)), none], [], flt (mk10 σ (fS w)) (fst fa (wntS (rgtV S w)))) := by
        rw [b2_yes b]
        simp only [e499_108, e499_131, e499_134, e499_142, Option.getD_some, Option.bind_some, Option.toList_some, Option.toList_none, List.cons_append, List.nil_append, and_self, and_true, true_and, false_and, and_false, ite_self, not_true_eq_false, not_false_eq_true, reduceIte, Nat.reduceEqDiff, ab_I, ab_L, ab_R, ao_I, ao_L, ao_R, gL_sL, gI_sI, gR_sR, gI_sL, gI_sR, gL_sI, gL_sR, gR_sI, gR_sL, oneI, c3, T334, t9, T494 iy, Int.toNat_natCast, aV_flt, at_v hJ hF (r := fS w) ⟨f2, hs⟩, flt_flt, eY]
        all_goals rfl
      rw [s157]
      refine key _ _ mk_sq ?_ ?_ ?_ ⟨okY.1.1, okY.1.2, okY.2.1⟩
      · rw [sqc_V mk_sq (by omega), vd]
      · rw [eY]
        exact at_v hJ hF ⟨f2, hs⟩
      · by_cases e : fS w = 10
        · rw [e, plc_10]
          exact Or.inr (Or.inr rfl)
        · rw [plc_9 hJ.1 hF.1 f2 (by omega)]
          left
          omega
    · have eY : (rgtV S w) = numV (cstN (iL (fI w))) := if_neg b
      have kY : vk (rgtV S w) = 1 := by rw [eY]; rfl
      have s157 : RR (lkB tb499) (B499_108, [some (mR (some 80)), some (mL w), none, some (mI (fOp w)), some (mI (fC w)), some (mI (b2 (wid w))), some (mI (b2 (rgt w))), some (mI (fO w)), some (mI (d : Int)), none, none], [], flt σ fa) = RR (lkB tb499) (B499_157, [some (mR (some 80)), some (mL w), none, some (mI (fOp w)), some (mI (fC w)), some (mI (b2 (wid w))), some (mI (b2 (rgt w))), some (mI (fO w)), some (mI (d : Int)), some (mI ((32657 : Nat) : Int)), none], [], flt (wrV σ 32657 (numV (cstN (iL (fI w))))) (fst fa (wntS (rgtV S w)))) := by
        have e0 : fst fa (wntS (rgtV S w)) = fa := by
          have : wntS (rgtV S w) = 0 := if_neg (by omega)
          rw [this, fst_r0]
        rw [e0, b2_no b]
        simp only [e499_108, e499_145, e499_153, Option.getD_some, Option.bind_some, Option.toList_some, Option.toList_none, List.cons_append, List.nil_append, and_self, and_true, true_and, false_and, and_false, ite_self, not_true_eq_false, not_false_eq_true, reduceIte, Nat.reduceEqDiff, ab_I, ab_L, ab_R, ao_I, ao_L, ao_R, gL_sL, gI_sI, gR_sR, gI_sL, gI_sR, gL_sI, gL_sR, gR_sI, gR_sL, T336, T433 (show (0 : Int) ≤ 32657 by decide) (show (32657 : Int) < 32664 by decide)]
        rw [← wrV_flt]
        rfl
      rw [s157]
      refine key _ _ (sqc_w (by decide)) ?_ ?_ (Or.inr (Or.inl rfl)) ⟨by omega, by omega, fun q => ?_⟩
      · rw [aV_ne (by omega), vd]
      · rw [aV_same, eY]
      · exfalso
        unfold mvs at q
        omega
-- FILE 39.lod
/-! ===== the reference's judge: loads ===== -/
theorem okV_f {E : EV} {t : Int} {S : ST} (h : okS E t S) {r : Nat} (hr : r ≤ 10) (k : vk (rgV S r) = 3) : 0 ≤ vw (rgV S r) ∧ vw (rgV S r) < sF S := by
  have hF := h.1
  unfold rgV at k ⊢
  split
  · show 0 ≤ (sF S : Int) - 1 ∧ (sF S : Int) - 1 < sF S
    omega
  · rename_i z
    rw [if_neg z] at k
    have := (h.2.1 (26 * (sF S - 1) + r) (by omega)).2.2.1 k
    omega
theorem bytN_c (w : B64) : bytN w = 1 ∨ bytN w = 2 ∨ bytN w = 4 ∨ bytN w = 8 := by
  unfold bytN
  repeat' split
  all_goals omega
theorem fO_r (w : B64) : -32768 ≤ fO w ∧ fO w ≤ 32767 := by
  unfold fO
  rw [Int.bmod_def]
  omega
section LOD
variable {w : B64} {S : ST} {E : EV} {t : Int} {σ σ1 : MS} {d px : Nat}
def lH (S : ST) (E : EV) (w : B64) (t : Int) (σ σ1 : MS) (d px : Nat) : Prop := (J0 σ S ∧ okS E t S ∧ canS S ∧ EO σ E) ∧ (gI σ 80 90 = 0 ∧ gI σ 80 85 = t) ∧ (d = 26 * (sF S - 1) + dR w ∧ dR w ≤ 9 ∧ sRr w ≤ 10) ∧ (sqc σ1 σ ∧ aV σ1 px = (rgV S (sRr w)) ∧ inB (px : Int)) ∧ (fM w = 96 ∨ fM w = 128 ∧ ¬ fB w = 3)
theorem lH_ok (h : lH S E w t σ σ1 d px) {v : VL} {τ ρ : MS} (hr : sqc ρ σ1) (hq : sqc τ (wrV ρ d v)) : jpo σ τ 0 (wV S (dR w) v) (gI σ 80 88) (gI σ 80 89) t := by
  obtain ⟨⟨h1, h2, h3, h4⟩, ⟨h5, h6⟩, ⟨h7, h8, h9⟩, ⟨h10, h11, h12⟩, h13⟩ := h
  have hF := h2.1
  refine jpo_w h5 h1 hF.2 (k := d) (by omega) (by rw [h7]; rfl) ?_
  have e : sI σ 80 85 t = σ := by rw [← h6]; exact sI_eta _ _ _
  rw [e]
  exact sqc_t hq (sqc_wV (sqc_t hr h10))
theorem lH_no (h : lH S E w t σ σ1 d px) {f : Int} {v : VL} {τ ρ : MS} (hf : ¬ f = 0) (hr : sqc ρ σ1) (hq : sqc τ (flt ρ f)) : jpo σ τ f (wV S (dR w) v) (gI σ 80 88) (gI σ 80 89) t := by
  obtain ⟨-, ⟨h5, -⟩, -, ⟨h10, -, -⟩, -⟩ := h
  exact jpo_f hf h5 (sqc_t hq (sqc_flt (sqc_t hr h10)))
theorem L511e (h : lH S E w t σ σ1 d px) (hv : lodV E S w = if fM w = 128 then (0, numV (tdN (sgnN (8 * bytN w)))) else (0, numV (wideN (bytN w)))) {ρ : MS} (hr : sqc ρ σ1) (x8 : Option MV) : okc (RR (lkB tb511) (B511_236, [some (mR (some 80)), some (mL w), none, some (mI (fOp w)), some (mI ((bytN w : Nat) : Int)), some (mI (px : Int)), some (mI (d : Int)), some (mI (fO w)), x8], [], ρ)) none (fun τ => jpo σ τ (lodV E S w).1 (wV S (dR w) (lodV E S w).2) (gI σ 80 88) (gI σ 80 89) t) := by
  have h' := h
  obtain ⟨⟨h1, h2, h3, h4⟩, ⟨h5, h6⟩, ⟨h7, h8, h9⟩, ⟨h10, h11, h12⟩, h13⟩ := h'
  have hF := h2.1
  have id : inB (d : Int) := ⟨by omega, by omega⟩
  have bn := bytN_c w
  have e8 : w32 (8 * ((bytN w : Nat) : Int)) = ((8 * bytN w : Nat) : Int) := by rw [w32_i (by omega) (by omega)]; omega
  refine okc_q (ls := [some (mR (some 80)), some (mL w), none, some (mI (fOp w)), some (mI ((bytN w : Nat) : Int)), some (mI (px : Int)), some (mI (d : Int)), some (mI (fO w)), none]) (by repeat (first | exact lq_nil | refine lq_cons (Or.inr rfl) ?_ | refine lq_cons (Or.inl rfl) ?_)) ?_
  rw [hv]
  by_cases c : fM w = 128
  · rw [if_pos c]
    simp only [e511_236, e511_258, e511_269, Option.getD_some, Option.bind_some, Option.toList_some, Option.toList_none, List.cons_append, List.nil_append, and_self, and_true, true_and, false_and, and_false, ite_self, not_true_eq_false, not_false_eq_true, reduceIte, Nat.reduceEqDiff, ab_I, ab_L, ab_R, ao_I, ao_L, ao_R, gL_sL, gI_sI, gR_sR, gI_sL, gI_sR, gL_sI, gL_sR, gR_sI, gR_sL, m224, c, e8, T438 id.1 id.2 (show 1 ≤ 8 * bytN w ∧ 8 * bytN w ≤ 64 by omega), Int.toNat_natCast]
    exact okc_s (lH_ok h hr (sqc_r _))
  · rw [if_neg c]
    simp only [e511_236, e511_269, Option.getD_some, Option.bind_some, Option.toList_some, Option.toList_none, List.cons_append, List.nil_append, and_self, and_true, true_and, false_and, and_false, ite_self, not_true_eq_false, not_false_eq_true, reduceIte, Nat.reduceEqDiff, ab_I, ab_L, ab_R, ao_I, ao_L, ao_R, gL_sL, gI_sI, gR_sR, gI_sL, gI_sR, gL_sI, gL_sR, gR_sI, gR_sL, m224, c, T437 id.1 id.2 (show bytN w ≤ 8 by omega), Int.toNat_natCast]
    exact okc_s (lH_ok h hr (sqc_r _))
set_option maxHeartbeats 1000000 in
theorem L511 (h : lH S E w t σ σ1 d px) : okc (RR (lkB tb511) (B511_32, [some (mR (some 80)), some (mL w), none, some (mI (fOp w)), some (mI ((bytN w : Nat) : Int)), some (mI (px : Int)), some (mI (d : Int)), some (mI (fO w)), none], [], flt σ1 (wntS (rgV S (sRr w))))) none (fun τ => jpo σ τ (lodV E S w).1 (wV S (dR w) (lodV E S w).2) (gI σ 80 88) (gI σ 80 89) t) := by
  have h' := h
  obtain ⟨⟨h1, h2, h3, h4⟩, ⟨h5, h6⟩, ⟨h7, h8, h9⟩, ⟨h10, h11, h12⟩, h13⟩ := h'
  have hF := h2.1
  have id : inB (d : Int) := ⟨by omega, by omega⟩
  have g0 : gI σ1 80 90 = 0 := (sqc_I h10 (by omega) (by omega)).trans h5
  have okX := okV_r h2 h9
  have canX := can_r h3 hF.1 h9
  have fo := fO_r w
  have bn := bytN_c w
  have k118 : gI σ1 118 px = vk (rgV S (sRr w)) := by rw [q118, h11]
  by_cases c0 : vk (rgV S (sRr w)) = 0
  · have un : lodV E S w = (3, unsV) := by unfold lodV; rw [if_pos c0]
    have e : wntS (rgV S (sRr w)) = 3 := if_pos c0
    have g : ¬ gI (flt σ1 3) 80 90 = 0 := by rw [fl_g, g0, fst0]; decide
    rw [e, un]
    simp only [e511_32, Option.getD_some, Option.bind_some, Option.toList_some, Option.toList_none, List.cons_append, List.nil_append, and_self, and_true, true_and, false_and, and_false, ite_self, not_true_eq_false, not_false_eq_true, reduceIte, Nat.reduceEqDiff, ab_I, ab_L, ab_R, ao_I, ao_L, ao_R, gL_sL, gI_sI, gR_sR, gI_sL, gI_sR, gL_sI, gL_sR, gR_sI, gR_sL, g]
    exact okc_s (lH_no h (by decide) (sqc_r _) (sqc_r _))
  · have e : wntS (rgV S (sRr w)) = 0 := if_neg c0
    rw [e, flt_0]
    by_cases c2 : vk (rgV S (sRr w)) = 2
    · by_cases G : fOp w = 97 ∧ 0 ≤ fO w ∧ fO w ≤ 16 ∧ fO w % 4 = 0
      · have un : lodV E S w = if fO w ≤ 4 then (0, mkV (if fO w = 0 then 7 else 8) 0 0) else (0, numV (wideN 4)) := by
          unfold lodV
          rw [if_neg c0, if_pos c2, if_neg (not_not_intro G)]
        obtain ⟨G1, G2, G3, G4⟩ := G
        have tm : Int.tmod (fO w) 4 = 0 := by rw [Int.tmod_eq_emod_of_nonneg G2]; exact G4
        have s81 : RR (lkB tb511) (B511_32, [some (mR (some 80)), some (mL w), none, some (mI (fOp w)), some (mI ((bytN w : Nat) : Int)), some (mI (px : Int)), some (mI (d : Int)), some (mI (fO w)), none], [], σ1) = RR (lkB tb511) (B511_81, [some (mR (some 80)), some (mL w), none, some (mI (fOp w)), some (mI ((bytN w : Nat) : Int)), some (mI (px : Int)), some (mI (d : Int)), some (mI (fO w)), none], [mI 1], σ1) := by
          have n1 : ¬ fO w < 0 := by omega
          have n2 : ¬ 16 < fO w := by omega
          simp only [e511_32, Option.getD_some, Option.bind_some, Option.toList_some, Option.toList_none, List.cons_append, List.nil_append, and_self, and_true, true_and, false_and, and_false, ite_self, not_true_eq_false, not_false_eq_true, reduceIte, Nat.reduceEqDiff, ab_I, ab_L, ab_R, ao_I, ao_L, ao_R, gL_sL, gI_sI, gR_sR, gI_sL, gI_sR, gL_sI, gL_sR, gR_sI, gR_sL, g0, g_118, h12.1, h12.2, Int.toNat_natCast, k118, c2, G1, n1, n2, tm]
        rw [s81, un]
        by_cases c4 : fO w ≤ 4
        · have n4 : ¬ 4 < fO w := by omega
          rw [if_pos c4]
          by_cases o0 : fO w = 0
          · simp only [e511_81, e511_118, e511_123, e511_133, Option.getD_some, Option.bind_some, Option.toList_some, Option.toList_none, List.cons_append, List.nil_append, and_self, and_true, true_and, false_and, and_false, ite_self, not_true_eq_false, not_false_eq_true, reduceIte, Nat.reduceEqDiff, ab_I, ab_L, ab_R, ao_I, ao_L, ao_R, gL_sL, gI_sI, gR_sR, gI_sL, gI_sR, gL_sI, gL_sR, gR_sI, gR_sL, oneI, o0, Int.reduceLT, T431 id (show (0 : Int) ≤ 7 ∧ (7 : Int) ≤ 10 by decide), Int.toNat_natCast]
            exact okc_s (lH_ok h (sqc_r _) (sqc_r _))
          · simp only [e511_81, e511_118, e511_123, e511_133, Option.getD_some, Option.bind_some, Option.toList_some, Option.toList_none, List.cons_append, List.nil_append, and_self, and_true, true_and, false_and, and_false, ite_self, not_true_eq_false, not_false_eq_true, reduceIte, Nat.reduceEqDiff, ab_I, ab_L, ab_R, ao_I, ao_L, ao_R, gL_sL, gI_sI, gR_sR, gI_sL, gI_sR, gL_sI, gL_sR, gR_sI, gR_sL, oneI, n4, o0, T431 id (show (0 : Int) ≤ 8 ∧ (8 : Int) ≤ 10 by decide), Int.toNat_natCast]
            exact okc_s (lH_ok h (sqc_r _) (sqc_r _))
        · have n4 : 4 < fO w := by omega
          have t4 := T437 (σ := σ1) (n := 4) id.1 id.2 (by omega)
          rw [show ((4 : Nat) : Int) = 4 from rfl] at t4
          rw [if_neg c4]
          simp only [e511_81, e511_133, Option.getD_some, Option.bind_some, Option.toList_some, Option.toList_none, List.cons_append, List.nil_append, and_self, and_true, true_and, false_and, and_false, ite_self, not_true_eq_false, not_false_eq_true, reduceIte, Nat.reduceEqDiff, ab_I, ab_L, ab_R, ao_I, ao_L, ao_R, gL_sL, gI_sI, gR_sR, gI_sL, gI_sR, gL_sI, gL_sR, gR_sI, gR_sL, oneI, n4, t4, Int.toNat_natCast]
          exact okc_s (lH_ok h (sqc_r _) (sqc_r _))
      · have un : lodV E S w = (9, unsV) := by
          unfold lodV
          rw [if_neg c0, if_pos c2, if_pos G]
        have s81 : RR (lkB tb511) (B511_32, [some (mR (some 80)), some (mL w), none, some (mI (fOp w)), some (mI ((bytN w : Nat) : Int)), some (mI (px : Int)), some (mI (d : Int)), some (mI (fO w)), none], [], σ1) = RR (lkB tb511) (B511_81, [some (mR (some 80)), some (mL w), none, some (mI (fOp w)), some (mI ((bytN w : Nat) : Int)), some (mI (px : Int)), some (mI (d : Int)), some (mI (fO w)), none], [mI 0], σ1) := by
          by_cases G1 : fOp w = 97
          · by_cases G2 : fO w < 0
            · simp only [e511_32, e511_80, Option.getD_some, Option.bind_some, Option.toList_some, Option.toList_none, List.cons_append, List.nil_append, and_self, and_true, true_and, false_and, and_false, ite_self, not_true_eq_false, not_false_eq_true, reduceIte, Nat.reduceEqDiff, ab_I, ab_L, ab_R, ao_I, ao_L, ao_R, gL_sL, gI_sI, gR_sR, gI_sL, gI_sR, gL_sI, gL_sR, gR_sI, gR_sL, g0, g_118, h12.1, h12.2, Int.toNat_natCast, k118, c2, G1, G2]
            · by_cases G3 : 16 < fO w
              · simp only [e511_32, e511_80, Option.getD_some, Option.bind_some, Option.toList_some, Option.toList_none, List.cons_append, List.nil_append, and_self, and_true, true_and, false_and, and_false, ite_self, not_true_eq_false, not_false_eq_true, reduceIte, Nat.reduceEqDiff, ab_I, ab_L, ab_R, ao_I, ao_L, ao_R, gL_sL, gI_sI, gR_sR, gI_sL, gI_sR, gL_sI, gL_sR, gR_sI, gR_sL, g0, g_118, h12.1, h12.2, Int.toNat_natCast, k118, c2, G1, G2, G3]
              · have tm : ¬ Int.tmod (fO w) 4 = 0 := by
                  rw [Int.tmod_eq_emod_of_nonneg (by omega)]
                  exact fun z => G ⟨G1, by omega, by omega, z⟩
                simp only [e511_32, e511_80, Option.getD_some, Option.bind_some, Option.toList_some, Option.toList_none, List.cons_append, List.nil_append, and_self, and_true, true_and, false_and, and_false, ite_self, not_true_eq_false, not_false_eq_true, reduceIte, Nat.reduceEqDiff, ab_I, ab_L, ab_R, ao_I, ao_L, ao_R, gL_sL, gI_sI, gR_sR, gI_sL, gI_sR, gL_sI, gL_sR, gR_sI, gR_sL, g0, g_118, h12.1, h12.2, Int.toNat_natCast, k118, c2, G1, G2, G3, tm]
          · simp only [e511_32, e511_80, Option.getD_some, Option.bind_some, Option.toList_some, Option.toList_none, List.cons_append, List.nil_append, and_self, and_true, true_and, false_and, and_false, ite_self, not_true_eq_false, not_false_eq_true, reduceIte, Nat.reduceEqDiff, ab_I, ab_L, ab_R, ao_I, ao_L, ao_R, gL_sL, gI_sI, gR_sR, gI_sL, gI_sR, gL_sI, gL_sR, gR_sI, gR_sL, g0, g_118, h12.1, h12.2, Int.toNat_natCast, k118, c2, G1]
        rw [s81, un]
        simp only [e511_81, e511_94, e511_133, Option.getD_some, Option.bind_some, Option.toList_some, Option.toList_none, List.cons_append, List.nil_append, and_self, and_true, true_and, false_and, and_false, ite_self, not_true_eq_false, not_false_eq_true, reduceIte, Nat.reduceEqDiff, ab_I, ab_L, ab_R, ao_I, ao_L, ao_R, gL_sL, gI_sI, gR_sR, gI_sL, gI_sR, gL_sI, gL_sR, gR_sI, gR_sL, T473]
        exact okc_s (lH_no h (by decide) (sqc_r _) (sqc_r _))
    · by_cases c3 : plcF (rgV S (sRr w)) = 0
      · have hm : mvs (rgV S (sRr w)) := by
          unfold plcF at c3
          by_cases z : isMb (rgV S (sRr w))
          · rw [if_pos z] at c3
            exact absurd c3 (by decide)
          · rw [if_neg z] at c3
            refine Classical.byContradiction fun q => ?_
            rw [if_pos q] at c3
            exact absurd c3 (by decide)
        have t3 := T503 (σ := σ1) (x := (px : Int)) (y := fO w) (n := bytN w) (g := 3) (t := t) (E := E) h12 (by rw [Int.toNat_natCast, h11]; exact hm) (by rw [Int.toNat_natCast, h11]; exact okX) (EO_sq h10 h4) (by rw [Int.toNat_natCast, h11]; exact canX.2.2.2.2.2) fo (by omega)
        simp only [Int.toNat_natCast, h11] at t3
        have s154 : RR (lkB tb511) (B511_32, [some (mR (some 80)), some (mL w), none, some (mI (fOp w)), some (mI ((bytN w : Nat) : Int)), some (mI (px : Int)), some (mI (d : Int)), some (mI (fO w)), none], [], σ1) = RR (lkB tb511) (B511_154, [some (mR (some 80)), some (mL w), none, some (mI (fOp w)), some (mI ((bytN w : Nat) : Int)), some (mI (px : Int)), some (mI (d : Int)), some (mI (fO w)), none], [mI (b2 (room E (rgV S (sRr w)) (fO w) (bytN w)))], (if vk (rgV S (sRr w)) = 3 then sI (sI σ1 80 103 (vw (rgV S (sRr w)))) 80 102 (vo (rgV S (sRr w)) + fO w + 128) else σ1)) := by
          have z1 : ∀ d : Decidable (fst (0 : Int) 0 = 0), @b2 (fst (0 : Int) 0 = 0) d = 1 := fun d => b2_yes rfl
          simp only [e511_32, e511_140, Option.getD_some, Option.bind_some, Option.toList_some, Option.toList_none, List.cons_append, List.nil_append, and_self, and_true, true_and, false_and, and_false, ite_self, not_true_eq_false, not_false_eq_true, reduceIte, Nat.reduceEqDiff, ab_I, ab_L, ab_R, ao_I, ao_L, ao_R, gL_sL, gI_sI, gR_sR, gI_sL, gI_sR, gL_sI, gL_sR, gR_sI, gR_sL, g0, g_118, h12.1, h12.2, Int.toNat_natCast, k118, c2, T510 h12, h11, c3, flt_0, z1, oneI, t3]
        rw [s154]
        by_cases c5 : room E (rgV S (sRr w)) (fO w) (bytN w)
        · rw [b2_yes c5]
          by_cases k3 : vk (rgV S (sRr w)) = 3
          · rw [if_pos k3]
            have hf := okV_f h2 h9 k3
            have hr : -128 ≤ vo (rgV S (sRr w)) + fO w ∧ vo (rgV S (sRr w)) + fO w ≤ -(bytN w : Int) := by
              have := c5
              unfold room at this
              rw [if_pos k3] at this
              exact this
            have eb : vo (rgV S (sRr w)) + fO w + 128 = (((vo (rgV S (sRr w)) + fO w + 128).toNat : Nat) : Int) := by omega
            generalize eB : (vo (rgV S (sRr w)) + fO w + 128).toNat = b at eb
            generalize hρ : sI (sI σ1 80 103 (vw (rgV S (sRr w)))) 80 102 (vo (rgV S (sRr w)) + fO w + 128) = ρ
            have r1 : sqc ρ σ1 := by rw [← hρ]; exact sqc_pb
            have r2 : gI ρ 80 102 = (b : Int) := by rw [← hρ, gI_sI, if_pos ⟨rfl, rfl⟩, eb]
            have r3 : gI ρ 80 103 = vw (rgV S (sRr w)) := by rw [← hρ, gI_sI, if_neg (by omega), gI_sI, if_pos ⟨rfl, rfl⟩]
            have r4 : aV ρ px = (rgV S (sRr w)) := by rw [← hρ, aV_sI (by omega), aV_sI (by omega), h11]
            have r5 : J0 ρ S := JSt_sq (sqc_t r1 h10) (by omega) hF.2 h1
            have r6 : gI ρ 118 px = 3 := by rw [q118, r4]; exact k3
            have lp : 26 * (vw (rgV S (sRr w))).toNat + 10 + b / 8 < 26 * sF S := by omega
            have vp := J0_v r5 lp
            have t4 : MM 504 [mR (some 80), mI (b : Int)] ρ = some (some (mI ((26 * (vw (rgV S (sRr w))).toNat + 10 + b / 8 : Nat) : Int)), ρ) := by
              have := T504 (σ := ρ) (b := b) (by omega) (by omega)
              rwa [r3] at this
            have t5 : MM 505 [mR (some 80), mI ((bytN w : Nat) : Int)] ρ = some (some (mI (b2 (areS S (vw (rgV S (sRr w))).toNat b (bytN w) = true))), ρ) := by
              have := T505 (σ := ρ) (n := bytN w) r5 hF.2 h3 (by omega) (by omega) (by omega)
              rwa [r3, r2, Int.toNat_natCast] at this
            generalize hp : 26 * (vw (rgV S (sRr w))).toNat + 10 + b / 8 = p at lp vp t4
            have ip : inB (p : Int) := ⟨by omega, by omega⟩
            have vkp := (h2.2.1 p lp).1
            have k118p : gI ρ 118 p = vk (sV S p) := by rw [q118, vp]
            have s182 : RR (lkB tb511) (B511_154, [some (mR (some 80)), some (mL w), none, some (mI (fOp w)), some (mI ((bytN w : Nat) : Int)), some (mI (px : Int)), some (mI (d : Int)), some (mI (fO w)), none], [mI 1], ρ) = RR (lkB tb511) (B511_182, [some (mR (some 80)), some (mL w), none, some (mI (fOp w)), some (mI ((bytN w : Nat) : Int)), some (mI (px : Int)), some (mI (d : Int)), some (mI (fO w)), none], [mI (p : Int)], ρ) := by
              simp only [e511_154, Option.getD_some, Option.bind_some, Option.toList_some, Option.toList_none, List.cons_append, List.nil_append, and_self, and_true, true_and, false_and, and_false, ite_self, not_true_eq_false, not_false_eq_true, reduceIte, Nat.reduceEqDiff, ab_I, ab_L, ab_R, ao_I, ao_L, ao_R, gL_sL, gI_sI, gR_sR, gI_sL, gI_sR, gL_sI, gL_sR, gR_sI, gR_sL, oneI, g_118, h12.1, h12.2, Int.toNat_natCast, r6, r2, t4]
            rw [s182]
            have s220 : ¬ (bytN w = 8 ∧ b % 8 = 0 ∧ ¬ vk (sV S p) = 0) → RR (lkB tb511) (B511_182, [some (mR (some 80)), some (mL w), none, some (mI (fOp w)), some (mI ((bytN w : Nat) : Int)), some (mI (px : Int)), some (mI (d : Int)), some (mI (fO w)), none], [mI (p : Int)], ρ) = RR (lkB tb511) (B511_220, [some (mR (some 80)), some (mL w), none, some (mI (fOp w)), some (mI ((bytN w : Nat) : Int)), some (mI (px : Int)), some (mI (d : Int)), some (mI (fO w)), some (mI (p : Int))], [], ρ) := fun q => by
              by_cases a1 : bytN w = 8
              · by_cases a2 : b % 8 = 0
                · have a3 : vk (sV S p) = 0 := Classical.byContradiction fun z => q ⟨a1, a2, z⟩
                  simp only [e511_182, Option.getD_some, Option.bind_some, Option.toList_some, Option.toList_none, List.cons_append, List.nil_append, and_self, and_true, true_and, false_and, and_false, ite_self, not_true_eq_false, not_false_eq_true, reduceIte, Nat.reduceEqDiff, ab_I, ab_L, ab_R, ao_I, ao_L, ao_R, gL_sL, gI_sI, gR_sR, gI_sL, gI_sR, gL_sI, gL_sR, gR_sI, gR_sL, a1, r2, tmod8, a2, g_118, ip.1, ip.2, Int.toNat_natCast, k118p, a3]
                  all_goals rfl
                · have a2' : ¬ ((b % 8 : Nat) : Int) = 0 := by omega
                  simp only [e511_182, Option.getD_some, Option.bind_some, Option.toList_some, Option.toList_none, List.cons_append, List.nil_append, and_self, and_true, true_and, false_and, and_false, ite_self, not_true_eq_false, not_false_eq_true, reduceIte, Nat.reduceEqDiff, ab_I, ab_L, ab_R, ao_I, ao_L, ao_R, gL_sL, gI_sI, gR_sR, gI_sL, gI_sR, gL_sI, gL_sR, gR_sI, gR_sL, a1, r2, tmod8, a2']
                  all_goals rfl
              · have a1' : ¬ ((bytN w : Nat) : Int) = 8 := by omega
                simp only [e511_182, Option.getD_some, Option.bind_some, Option.toList_some, Option.toList_none, List.cons_append, List.nil_append, and_self, and_true, true_and, false_and, and_false, ite_self, not_true_eq_false, not_false_eq_true, reduceIte, Nat.reduceEqDiff, ab_I, ab_L, ab_R, ao_I, ao_L, ao_R, gL_sL, gI_sI, gR_sR, gI_sL, gI_sR, gL_sI, gL_sR, gR_sI, gR_sL, a1']
            have un : lodV E S w = if (bytN w = 8 ∧ b % 8 = 0 ∧ ¬ vk (sV S p) = 0) then (0, sV S p) else if areS S (vw (rgV S (sRr w))).toNat b (bytN w) = false then (6, unsV) else if fM w = 128 then (0, numV (tdN (sgnN (8 * bytN w)))) else (0, numV (wideN (bytN w))) := by
              unfold lodV
              rw [if_neg c0, if_neg c2, if_neg (not_not_intro c3), if_neg (not_not_intro c5), eB, hp]
              have e3 : (vo (rgV S (sRr w)) + fO w + 128) % 8 = 0 ↔ b % 8 = 0 := by omega
              by_cases a1 : bytN w = 8 ∧ b % 8 = 0 ∧ ¬ vk (sV S p) = 0
              · rw [if_pos a1, if_pos ⟨k3, ⟨a1.1, e3.mpr a1.2.1⟩, a1.2.2⟩]
              · rw [if_neg a1, if_neg (fun q => a1 ⟨q.2.1.1, e3.mp q.2.1.2, q.2.2⟩)]
                by_cases a2 : areS S (vw (rgV S (sRr w))).toNat b (bytN w) = false
                · rw [if_pos a2, if_pos ⟨k3, a2⟩]
                · rw [if_neg a2, if_neg (fun q => a2 q.2)]
            by_cases W : bytN w = 8 ∧ b % 8 = 0 ∧ ¬ vk (sV S p) = 0
            · rw [if_pos W] at un
              rw [un]
              obtain ⟨a1, a2, a3⟩ := W
              have a2' : ((b % 8 : Nat) : Int) = 0 := by omega
              have a1' : ((bytN w : Nat) : Int) = 8 := by omega
              have tv := T430 (σ := ρ) ip id (by rw [Int.toNat_natCast, vp]; omega)
              simp only [Int.toNat_natCast, vp] at tv
              simp only [e511_182, e511_219, Option.getD_some, Option.bind_some, Option.toList_some, Option.toList_none, List.cons_append, List.nil_append, and_self, and_true, true_and, false_and, and_false, ite_self, not_true_eq_false, not_false_eq_true, reduceIte, Nat.reduceEqDiff, ab_I, ab_L, ab_R, ao_I, ao_L, ao_R, gL_sL, gI_sI, gR_sR, gI_sL, gI_sR, gL_sI, gL_sR, gR_sI, gR_sL, a1', r2, tmod8, a2', g_118, ip.1, ip.2, Int.toNat_natCast, k118p, a3, tv]
              exact okc_s (lH_ok h r1 (sqc_r _))
            · rw [s220 W]
              rw [if_neg W] at un
              by_cases V : areS S (vw (rgV S (sRr w))).toNat b (bytN w) = true
              · rw [if_neg (by rw [V]; decide)] at un
                have s236 : RR (lkB tb511) (B511_220, [some (mR (some 80)), some (mL w), none, some (mI (fOp w)), some (mI ((bytN w : Nat) : Int)), some (mI (px : Int)), some (mI (d : Int)), some (mI (fO w)), some (mI (p : Int))], [], ρ) = RR (lkB tb511) (B511_236, [some (mR (some 80)), some (mL w), none, some (mI (fOp w)), some (mI ((bytN w : Nat) : Int)), some (mI (px : Int)), some (mI (d : Int)), some (mI (fO w)), some (mI (p : Int))], [], ρ) := by
                  simp only [e511_220, e511_226, Option.getD_some, Option.bind_some, Option.toList_some, Option.toList_none, List.cons_append, List.nil_append, and_self, and_true, true_and, false_and, and_false, ite_self, not_true_eq_false, not_false_eq_true, reduceIte, Nat.reduceEqDiff, ab_I, ab_L, ab_R, ao_I, ao_L, ao_R, gL_sL, gI_sI, gR_sR, gI_sL, gI_sR, gL_sI, gL_sR, gR_sI, gR_sL, t5, b2_yes V, oneI]
                rw [s236]
                exact L511e h un r1 _
              · have V' : areS S (vw (rgV S (sRr w))).toNat b (bytN w) = false := by simpa using V
                rw [if_pos V'] at un
                rw [un]
                simp only [e511_220, e511_226, e511_235, Option.getD_some, Option.bind_some, Option.toList_some, Option.toList_none, List.cons_append, List.nil_append, and_self, and_true, true_and, false_and, and_false, ite_self, not_true_eq_false, not_false_eq_true, reduceIte, Nat.reduceEqDiff, ab_I, ab_L, ab_R, ao_I, ao_L, ao_R, gL_sL, gI_sI, gR_sR, gI_sL, gI_sR, gL_sI, gL_sR, gR_sI, gR_sL, t5, b2_no V, T473]
                exact okc_s (lH_no h (by decide) r1 (sqc_r _))
          · rw [if_neg k3]
            have un : lodV E S w = if fM w = 128 then (0, numV (tdN (sgnN (8 * bytN w)))) else (0, numV (wideN (bytN w))) := by
              unfold lodV
              rw [if_neg c0, if_neg c2, if_neg (not_not_intro c3), if_neg (not_not_intro c5), if_neg (fun q => k3 q.1), if_neg (fun q => k3 q.1)]
            have s236 : RR (lkB tb511) (B511_154, [some (mR (some 80)), some (mL w), none, some (mI (fOp w)), some (mI ((bytN w : Nat) : Int)), some (mI (px : Int)), some (mI (d : Int)), some (mI (fO w)), none], [mI 1], σ1) = RR (lkB tb511) (B511_236, [some (mR (some 80)), some (mL w), none, some (mI (fOp w)), some (mI ((bytN w : Nat) : Int)), some (mI (px : Int)), some (mI (d : Int)), some (mI (fO w)), none], [], σ1) := by
              simp only [e511_154, Option.getD_some, Option.bind_some, Option.toList_some, Option.toList_none, List.cons_append, List.nil_append, and_self, and_true, true_and, false_and, and_false, ite_self, not_true_eq_false, not_false_eq_true, reduceIte, Nat.reduceEqDiff, ab_I, ab_L, ab_R, ao_I, ao_L, ao_R, gL_sL, gI_sI, gR_sR, gI_sL, gI_sR, gL_sI, gL_sR, gR_sI, gR_sL, oneI, g_118, h12.1, h12.2, Int.toNat_natCast, k118, k3]
            rw [s236]
            exact L511e h un (sqc_r _) _
        · have un : lodV E S w = (5, unsV) := by
            unfold lodV
            rw [if_neg c0, if_neg c2, if_neg (not_not_intro c3), if_pos c5]
          rw [b2_no c5, un]
          generalize hρ : (if vk (rgV S (sRr w)) = 3 then sI (sI σ1 80 103 (vw (rgV S (sRr w)))) 80 102 (vo (rgV S (sRr w)) + fO w + 128) else σ1) = ρ
          have r1 : sqc ρ σ1 := by
            rw [← hρ]
            split
            · exact sqc_pb
            · exact sqc_r _
          simp only [e511_154, e511_162, Option.getD_some, Option.bind_some, Option.toList_some, Option.toList_none, List.cons_append, List.nil_append, and_self, and_true, true_and, false_and, and_false, ite_self, not_true_eq_false, not_false_eq_true, reduceIte, Nat.reduceEqDiff, ab_I, ab_L, ab_R, ao_I, ao_L, ao_R, gL_sL, gI_sI, gR_sR, gI_sL, gI_sR, gL_sI, gL_sR, gR_sI, gR_sL, T473]
          exact okc_s (lH_no h (by decide) r1 (sqc_r _))
      · have un : lodV E S w = (plcF (rgV S (sRr w)), unsV) := by
          unfold lodV
          rw [if_neg c0, if_neg c2, if_pos c3]
        have z1 : ∀ d : Decidable (fst (0 : Int) (plcF (rgV S (sRr w))) = 0), @b2 (fst (0 : Int) (plcF (rgV S (sRr w))) = 0) d = 0 := fun d => b2_no (by rw [fst0]; exact c3)
        rw [un]
        simp only [e511_32, e511_140, Option.getD_some, Option.bind_some, Option.toList_some, Option.toList_none, List.cons_append, List.nil_append, and_self, and_true, true_and, false_and, and_false, ite_self, not_true_eq_false, not_false_eq_true, reduceIte, Nat.reduceEqDiff, ab_I, ab_L, ab_R, ao_I, ao_L, ao_R, gL_sL, gI_sI, gR_sR, gI_sL, gI_sR, gL_sI, gL_sR, gR_sI, gR_sL, g0, g_118, h12.1, h12.2, Int.toNat_natCast, k118, c2, T510 h12, h11, z1]
        exact okc_s (lH_no h c3 (sqc_r _) (sqc_r _))
theorem T511 (hJ : J0 σ S) (ho : okS E t S) (hc : canS S) (hE : EO σ E) (hw : okMem w) (hl : fL w = 1) (h0 : gI σ 80 90 = 0) (ht : gI σ 80 85 = t) : okc (MM 511 [mR (some 80), mL w, mI (fOp w), mI ((bytN w : Nat) : Int)] σ) none (fun τ => jpo σ τ (lodV E S w).1 (wV S (dR w) (lodV E S w).2) (gI σ 80 88) (gI σ 80 89) t) := by
  have hF := ho.1
  have f := fld_rng w
  have f1 : 0 ≤ fD w := f.2.1.1
  have f2 : 0 ≤ fS w := f.2.2.1.1
  have hw2 : (fM w = 96 ∨ fM w = 128 ∧ ¬ fB w = 3) ∧ fD w ≤ 9 ∧ fS w ≤ 10 ∧ fI w = 0 := by
    have := hw
    unfold okMem at this
    rwa [if_pos hl] at this
  obtain ⟨m1, m2, m3, -⟩ := hw2
  have t1 := T492 (σ := σ) (r := fS w) ⟨f2, m3⟩ (by rw [hJ.1]; omega)
  have ip := plc_b hJ.1 hF (r := fS w) ⟨f2, m3⟩
  have vx := at_v hJ hF (r := fS w) ⟨f2, m3⟩
  have ed : plc (gI σ 123 0) (fD w) = 26 * (sF S - 1) + dR w := plc_9 hJ.1 hF.1 f1 m2
  generalize plc (gI σ 123 0) (fS w) = px at t1 ip vx
  generalize hσ1 : mk10 σ (fS w) = σ1 at t1 vx
  have r1 : sqc σ1 σ := by rw [← hσ1]; exact mk_sq
  have g123 : gI σ1 123 0 = gI σ 123 0 := sqc_I r1 (by omega) (by omega)
  have t2 := T492 (σ := σ1) (r := fD w) ⟨f1, by omega⟩ (by rw [g123, hJ.1]; omega)
  rw [g123, ed, mkr_9 m2] at t2
  have H : lH S E w t σ σ1 (26 * (sF S - 1) + dR w) px := ⟨⟨hJ, ho, hc, hE⟩, ⟨h0, ht⟩, ⟨rfl, by unfold dR; omega, by unfold sRr; omega⟩, ⟨r1, vx, ip⟩, m1⟩
  have s32 : MM 511 [mR (some 80), mL w, mI (fOp w), mI ((bytN w : Nat) : Int)] σ = RR (lkB tb511) (B511_32, [some (mR (some 80)), some (mL w), none, some (mI (fOp w)), some (mI ((bytN w : Nat) : Int)), some (mI (px : Int)), some (mI ((26 * (sF S - 1) + dR w : Nat) : Int)), some (mI (fO w)), none], [], flt σ1 (wntS (rgV S (sRr w)))) := by
    simp only [M511, e511_0, e511_5, e511_8, e511_15, e511_18, e511_24, Option.getD_some, Option.bind_some, Option.toList_some, Option.toList_none, List.cons_append, List.nil_append, and_self, and_true, true_and, false_and, and_false, ite_self, not_true_eq_false, not_false_eq_true, reduceIte, Nat.reduceEqDiff, ab_I, ab_L, ab_R, ao_I, ao_L, ao_R, gL_sL, gI_sI, gR_sR, gI_sL, gI_sR, gL_sI, gL_sR, gR_sI, gR_sL, T334, T333, T335, t1, t2, T494 ip, Int.toNat_natCast, vx]
  rw [s32]
  exact L511 H
end LOD
-- FILE 40.sto
/-! ===== the reference's judge: stores ===== -/
section STO
variable {w : B64} {S : ST} {E : EV} {t : Int} {σ σ1 : MS} {y : Nat}
def sH4 (S : ST) (E : EV) (w : B64) (t : Int) (σ σ1 : MS) (y : Nat) : Prop := (J0 σ S ∧ okS E t S ∧ canS S ∧ EO σ E) ∧ (gI σ 80 90 = 0 ∧ gI σ 80 85 = t) ∧ (dR w ≤ 10 ∧ (0 ≤ vk (if fL w = 3 then rgV S (sRr w) else numV (cstN (iL (fI w)))) ∧ vk (if fL w = 3 then rgV S (sRr w) else numV (cstN (iL (fI w)))) ≤ 10)) ∧ (sqc σ1 σ ∧ aV σ1 32661 = (rgV S (dR w)) ∧ aV σ1 y = (if fL w = 3 then rgV S (sRr w) else numV (cstN (iL (fI w)))) ∧ inB (y : Int))
/-- what is behind, but for what the stack has -/
theorem sH_ok (h : sH4 S E w t σ σ1 y) {τ ρ : MS} (hr : sqc ρ σ1) (hq : sqc τ ρ) : jpo σ τ 0 S (gI σ 80 88) (gI σ 80 89) t := by
  obtain ⟨⟨h1, h2, h3, h4⟩, ⟨h5, h6⟩, h7, ⟨h10, h11, h12, h13⟩⟩ := h
  rw [← h6]
  exact jpo_s h5 h1 h2.1.2 (sqc_t hq (sqc_t hr h10))
theorem sH_no (h : sH4 S E w t σ σ1 y) {f : Int} {S' : ST} {τ ρ : MS} (hf : ¬ f = 0) (hr : sqc ρ σ1) (hq : sqc τ (flt ρ f)) : jpo σ τ f S' (gI σ 80 88) (gI σ 80 89) t := by
  obtain ⟨-, ⟨h5, -⟩, -, ⟨h10, -, -, -⟩⟩ := h
  exact jpo_f hf h5 (sqc_t hq (sqc_flt (sqc_t hr h10)))
set_option maxHeartbeats 2000000 in
theorem L512 (h : sH4 S E w t σ σ1 y) (hk : ¬ vk (rgV S (dR w)) = 0) (hky : ¬ vk (if fL w = 3 then rgV S (sRr w) else numV (cstN (iL (fI w)))) = 0) : okc (RR (lkB tb512) (B512_80, [some (mR (some 80)), some (mL w), none, some (mI (fOp w)), some (mI ((bytN w : Nat) : Int)), some (mI (32661 : Int)), some (mI (fO w)), some (mI (y : Int)), none], [], σ1)) none (fun τ => jpo σ τ (stoV E S w).1 (stoV E S w).2 (gI σ 80 88) (gI σ 80 89) t) := by
  have h' := h
  obtain ⟨⟨h1, h2, h3, h4⟩, ⟨h5, h6⟩, ⟨h8, h9⟩, ⟨h10, h11, h12, h13⟩⟩ := h'
  have hF := h2.1
  have bX : inB 32661 := by decide
  have nX : (32661 : Int).toNat = 32661 := rfl
  have g0 : gI σ1 80 90 = 0 := (sqc_I h10 (by omega) (by omega)).trans h5
  have okX := okV_r h2 h8
  have canX := can_r h3 hF.1 h8
  have fo := fO_r w
  have bn := bytN_c w
  have k118 : gI σ1 118 32661 = vk (rgV S (dR w)) := by rw [q118, h11]
  have k118y : gI σ1 118 y = vk (if fL w = 3 then rgV S (sRr w) else numV (cstN (iL (fI w)))) := by rw [q118, h12]
  have eY : (if fL w = 3 then rgV S (sRr w) else numV (cstN (BitVec.ofInt 64 (fI w)))) = (if fL w = 3 then rgV S (sRr w) else numV (cstN (iL (fI w)))) := rfl
  generalize hY : (if fL w = 3 then rgV S (sRr w) else numV (cstN (iL (fI w)))) = Y at *
  by_cases c2 : vk (rgV S (dR w)) = 2
  · by_cases G : bytN w = 4 ∧ fO w = 12
    · by_cases q1 : vk Y = 1
      · have un : stoV E S w = (0, S) := by
          unfold stoV
          rw [eY, if_neg hk, if_neg hky, if_pos c2, if_neg (by omega), if_neg (not_not_intro q1)]
        rw [un]
        simp only [e512_80, e512_138, Option.getD_some, Option.bind_some, Option.toList_some, Option.toList_none, List.cons_append, List.nil_append, and_self, and_true, true_and, false_and, and_false, ite_self, not_true_eq_false, not_false_eq_true, reduceIte, Nat.reduceEqDiff, ab_I, ab_L, ab_R, ao_I, ao_L, ao_R, gL_sL, gI_sI, gR_sR, gI_sL, gI_sR, gL_sI, gL_sR, gR_sI, gR_sL, g0, g_118, Int.reduceLT, Int.reduceLE, nX, k118, c2, G.1, G.2, h13.1, h13.2, Int.toNat_natCast, k118y, q1, Int.cast_ofNat_Int]
        exact okc_s (sH_ok h (sqc_r _) (sqc_r _))
      · have un : stoV E S w = (7, S) := by
          unfold stoV
          rw [eY, if_neg hk, if_neg hky, if_pos c2, if_neg (by omega), if_pos q1]
        rw [un]
        simp only [e512_80, e512_138, Option.getD_some, Option.bind_some, Option.toList_some, Option.toList_none, List.cons_append, List.nil_append, and_self, and_true, true_and, false_and, and_false, ite_self, not_true_eq_false, not_false_eq_true, reduceIte, Nat.reduceEqDiff, ab_I, ab_L, ab_R, ao_I, ao_L, ao_R, gL_sL, gI_sI, gR_sR, gI_sL, gI_sR, gL_sI, gL_sR, gR_sI, gR_sL, g0, g_118, Int.reduceLT, Int.reduceLE, nX, k118, c2, G.1, G.2, h13.1, h13.2, Int.toNat_natCast, k118y, q1, T473, Int.cast_ofNat_Int]
        exact okc_s (sH_no h (by decide) (sqc_r _) (sqc_r _))
    · have un : stoV E S w = (9, S) := by
        unfold stoV
        rw [eY, if_neg hk, if_neg hky, if_pos c2, if_pos (by omega)]
      have s112 : RR (lkB tb512) (B512_80, [some (mR (some 80)), some (mL w), none, some (mI (fOp w)), some (mI ((bytN w : Nat) : Int)), some (mI (32661 : Int)), some (mI (fO w)), some (mI (y : Int)), none], [], σ1) = RR (lkB tb512) (B512_112, [some (mR (some 80)), some (mL w), none, some (mI (fOp w)), some (mI ((bytN w : Nat) : Int)), some (mI (32661 : Int)), some (mI (fO w)), some (mI (y : Int)), none], [], σ1) := by
        by_cases q1 : bytN w = 4
        · have q2 : ¬ fO w = 12 := fun z => G ⟨q1, z⟩
          simp only [e512_80, Option.getD_some, Option.bind_some, Option.toList_some, Option.toList_none, List.cons_append, List.nil_append, and_self, and_true, true_and, false_and, and_false, ite_self, not_true_eq_false, not_false_eq_true, reduceIte, Nat.reduceEqDiff, ab_I, ab_L, ab_R, ao_I, ao_L, ao_R, gL_sL, gI_sI, gR_sR, gI_sL, gI_sR, gL_sI, gL_sR, gR_sI, gR_sL, g0, g_118, Int.reduceLT, Int.reduceLE, nX, k118, c2, q1, q2, Int.cast_ofNat_Int]
        · have q1' : ¬ ((bytN w : Nat) : Int) = 4 := by omega
          simp only [e512_80, Option.getD_some, Option.bind_some, Option.toList_some, Option.toList_none, List.cons_append, List.nil_append, and_self, and_true, true_and, false_and, and_false, ite_self, not_true_eq_false, not_false_eq_true, reduceIte, Nat.reduceEqDiff, ab_I, ab_L, ab_R, ao_I, ao_L, ao_R, gL_sL, gI_sI, gR_sR, gI_sL, gI_sR, gL_sI, gL_sR, gR_sI, gR_sL, g0, g_118, Int.reduceLT, Int.reduceLE, nX, k118, c2, q1']
      rw [s112, un]
      simp only [e512_112, e512_118, e512_138, Option.getD_some, Option.bind_some, Option.toList_some, Option.toList_none, List.cons_append, List.nil_append, and_self, and_true, true_and, false_and, and_false, ite_self, not_true_eq_false, not_false_eq_true, reduceIte, Nat.reduceEqDiff, ab_I, ab_L, ab_R, ao_I, ao_L, ao_R, gL_sL, gI_sI, gR_sR, gI_sL, gI_sR, gL_sI, gL_sR, gR_sI, gR_sL, T473]
      exact okc_s (sH_no h (by decide) (sqc_r _) (sqc_r _))
  · by_cases c3 : plcF (rgV S (dR w)) = 0
    · have hm : mvs (rgV S (dR w)) := by
        unfold plcF at c3
        by_cases z : isMb (rgV S (dR w))
        · rw [if_pos z] at c3
          exact absurd c3 (by decide)
        · rw [if_neg z] at c3
          refine Classical.byContradiction fun q => ?_
          rw [if_pos q] at c3
          exact absurd c3 (by decide)
      have t3 := T503 (σ := σ1) (x := 32661) (y := fO w) (n := bytN w) (g := 3) (t := t) (E := E) bX (by rw [nX, h11]; exact hm) (by rw [nX, h11]; exact okX) (EO_sq h10 h4) (by rw [nX, h11]; exact canX.2.2.2.2.2) fo (by omega)
      simp only [nX, h11] at t3
      have s159 : RR (lkB tb512) (B512_80, [some (mR (some 80)), some (mL w), none, some (mI (fOp w)), some (mI ((bytN w : Nat) : Int)), some (mI (32661 : Int)), some (mI (fO w)), some (mI (y : Int)), none], [], σ1) = RR (lkB tb512) (B512_159, [some (mR (some 80)), some (mL w), none, some (mI (fOp w)), some (mI ((bytN w : Nat) : Int)), some (mI (32661 : Int)), some (mI (fO w)), some (mI (y : Int)), none], [mI (b2 (room E (rgV S (dR w)) (fO w) (bytN w)))], (if vk (rgV S (dR w)) = 3 then sI (sI σ1 80 103 (vw (rgV S (dR w)))) 80 102 (vo (rgV S (dR w)) + fO w + 128) else σ1)) := by
        have z1 : ∀ d : Decidable (fst (0 : Int) 0 = 0), @b2 (fst (0 : Int) 0 = 0) d = 1 := fun d => b2_yes rfl
        simp only [e512_80, e512_145, Option.getD_some, Option.bind_some, Option.toList_some, Option.toList_none, List.cons_append, List.nil_append, and_self, and_true, true_and, false_and, and_false, ite_self, not_true_eq_false, not_false_eq_true, reduceIte, Nat.reduceEqDiff, ab_I, ab_L, ab_R, ao_I, ao_L, ao_R, gL_sL, gI_sI, gR_sR, gI_sL, gI_sR, gL_sI, gL_sR, gR_sI, gR_sL, g0, g_118, Int.reduceLT, Int.reduceLE, nX, k118, c2, T510 bX, h11, c3, flt_0, z1, oneI, t3]
      rw [s159]
      by_cases c5 : room E (rgV S (dR w)) (fO w) (bytN w)
      · rw [b2_yes c5]
        by_cases k3 : vk (rgV S (dR w)) = 3
        · rw [if_pos k3]
          have hf := okV_f h2 h8 k3
          have hr : -128 ≤ vo (rgV S (dR w)) + fO w ∧ vo (rgV S (dR w)) + fO w ≤ -(bytN w : Int) := by
            have := c5
            unfold room at this
            rw [if_pos k3] at this
            exact this
          have eb : vo (rgV S (dR w)) + fO w + 128 = (((vo (rgV S (dR w)) + fO w + 128).toNat : Nat) : Int) := by omega
          have e3 : (vo (rgV S (dR w)) + fO w + 128) % 8 = 0 ↔ (vo (rgV S (dR w)) + fO w + 128).toNat % 8 = 0 := by omega
          have bb : (vo (rgV S (dR w)) + fO w + 128).toNat + bytN w ≤ 128 := by omega
          generalize eB : (vo (rgV S (dR w)) + fO w + 128).toNat = b at eb e3 bb
          generalize hρ : sI (sI σ1 80 103 (vw (rgV S (dR w)))) 80 102 (vo (rgV S (dR w)) + fO w + 128) = ρ
          have r1 : sqc ρ σ1 := by rw [← hρ]; exact sqc_pb
          have r2 : gI ρ 80 102 = (b : Int) := by rw [← hρ, gI_sI, if_pos ⟨rfl, rfl⟩, eb]
          have r3 : gI ρ 80 103 = vw (rgV S (dR w)) := by rw [← hρ, gI_sI, if_neg (by omega), gI_sI, if_pos ⟨rfl, rfl⟩]
          have r4 : aV ρ 32661 = (rgV S (dR w)) := by rw [← hρ, aV_sI (by omega), aV_sI (by omega), h11]
          have r5 : J0 ρ S := JSt_sq (sqc_t r1 h10) (by omega) hF.2 h1
          have r6 : gI ρ 118 32661 = 3 := by rw [q118, r4]; exact k3
          have r7 : aV ρ y = Y := by rw [← hρ, aV_sI (by omega), aV_sI (by omega), h12]
          have r8 : gI ρ 118 y = vk Y := by rw [q118, r7]
          have r9 : gI ρ 120 y = vw Y := by rw [q120, r7]
          have lp : 26 * (vw (rgV S (dR w))).toNat + 10 + b / 8 < 26 * sF S := by omega
          have t4 : MM 504 [mR (some 80), mI (b : Int)] ρ = some (some (mI ((26 * (vw (rgV S (dR w))).toNat + 10 + b / 8 : Nat) : Int)), ρ) := by
            have := T504 (σ := ρ) (b := b) (by omega) (by omega)
            rwa [r3] at this
          have hfr : gI ρ 80 103 = (((vw (rgV S (dR w))).toNat : Nat) : Int) := by omega
          have un : stoV E S w = if ¬ vk Y = 1 ∧ (¬ (bytN w = 8 ∧ b % 8 = 0) ∨ vk Y = 3 ∧ vw (rgV S (dR w)) < vw Y) then (7, S)
              else if bytN w = 8 ∧ b % 8 = 0 then (0, (sF S, upV (sV S) (26 * (vw (rgV S (dR w))).toNat + 10 + b / 8) Y, sB S, sH S))
              else (0, putB S (vw (rgV S (dR w))).toNat b (bytN w) (bytN w)) := by
            unfold stoV
            rw [eY, if_neg hk, if_neg hky, if_neg c2, if_neg (not_not_intro c3), if_neg (not_not_intro c5), eB]
            by_cases W : bytN w = 8 ∧ b % 8 = 0
            · have W2 : vk (rgV S (dR w)) = 3 ∧ bytN w = 8 ∧ (vo (rgV S (dR w)) + fO w + 128) % 8 = 0 := ⟨k3, W.1, e3.mpr W.2⟩
              rw [if_pos W2, if_pos W]
              by_cases A : ¬ vk Y = 1 ∧ (¬ (bytN w = 8 ∧ b % 8 = 0) ∨ vk Y = 3 ∧ vw (rgV S (dR w)) < vw Y)
              · rw [if_pos A, if_pos ⟨A.1, Or.inr (A.2.resolve_left (fun q => q W))⟩]
              · rw [if_neg A, if_neg (fun q => A ⟨q.1, Or.inr (q.2.resolve_left (fun z => z W2))⟩)]
            · have W2 : ¬ (vk (rgV S (dR w)) = 3 ∧ bytN w = 8 ∧ (vo (rgV S (dR w)) + fO w + 128) % 8 = 0) := fun q => W ⟨q.2.1, e3.mp q.2.2⟩
              rw [if_neg W2, if_neg W, if_pos k3]
              by_cases A : vk Y = 1
              · rw [if_neg (fun q => q.1 A), if_neg (fun q => q.1 A)]
              · rw [if_pos ⟨A, Or.inl W2⟩, if_pos ⟨A, Or.inl W⟩]
          have s201 : RR (lkB tb512) (B512_159, [some (mR (some 80)), some (mL w), none, some (mI (fOp w)), some (mI ((bytN w : Nat) : Int)), some (mI (32661 : Int)), some (mI (fO w)), some (mI (y : Int)), none], [mI 1], ρ) = RR (lkB tb512) (B512_201, [some (mR (some 80)), some (mL w), none, some (mI (fOp w)), some (mI ((bytN w : Nat) : Int)), some (mI (32661 : Int)), some (mI (fO w)), some (mI (y : Int)), none], [mI (b2 (bytN w = 8 ∧ b % 8 = 0))], ρ) := by
            by_cases a1 : bytN w = 8
            · have a1' : ((bytN w : Nat) : Int) = 8 := by omega
              by_cases a2 : b % 8 = 0
              · have a2' : ((b % 8 : Nat) : Int) = 0 := by omega
                rw [b2_yes ⟨a1, a2⟩]
                simp only [e512_159, e512_200, Option.getD_some, Option.bind_some, Option.toList_some, Option.toList_none, List.cons_append, List.nil_append, and_self, and_true, true_and, false_and, and_false, ite_self, not_true_eq_false, not_false_eq_true, reduceIte, Nat.reduceEqDiff, ab_I, ab_L, ab_R, ao_I, ao_L, ao_R, gL_sL, gI_sI, gR_sR, gI_sL, gI_sR, gL_sI, gL_sR, gR_sI, gR_sL, oneI, g_118, Int.reduceLT, Int.reduceLE, nX, r6, a1', r2, tmod8, a2']
              · have a2' : ¬ ((b % 8 : Nat) : Int) = 0 := by omega
                rw [b2_no (fun q => a2 q.2)]
                simp only [e512_159, e512_200, Option.getD_some, Option.bind_some, Option.toList_some, Option.toList_none, List.cons_append, List.nil_append, and_self, and_true, true_and, false_and, and_false, ite_self, not_true_eq_false, not_false_eq_true, reduceIte, Nat.reduceEqDiff, ab_I, ab_L, ab_R, ao_I, ao_L, ao_R, gL_sL, gI_sI, gR_sR, gI_sL, gI_sR, gL_sI, gL_sR, gR_sI, gR_sL, oneI, g_118, Int.reduceLT, Int.reduceLE, nX, r6, a1', r2, tmod8, a2']
            · have a1' : ¬ ((bytN w : Nat) : Int) = 8 := by omega
              rw [b2_no (fun q => a1 q.1)]
              simp only [e512_159, e512_200, Option.getD_some, Option.bind_some, Option.toList_some, Option.toList_none, List.cons_append, List.nil_append, and_self, and_true, true_and, false_and, and_false, ite_self, not_true_eq_false, not_false_eq_true, reduceIte, Nat.reduceEqDiff, ab_I, ab_L, ab_R, ao_I, ao_L, ao_R, gL_sL, gI_sI, gR_sR, gI_sL, gI_sR, gL_sI, gL_sR, gR_sI, gR_sL, oneI, g_118, Int.reduceLT, Int.reduceLE, nX, r6, a1']
          rw [s201]
          by_cases A : ¬ vk Y = 1 ∧ (¬ (bytN w = 8 ∧ b % 8 = 0) ∨ vk Y = 3 ∧ vw (rgV S (dR w)) < vw Y)
          · rw [if_pos A] at un
            rw [un]
            have s244 : RR (lkB tb512) (B512_201, [some (mR (some 80)), some (mL w), none, some (mI (fOp w)), some (mI ((bytN w : Nat) : Int)), some (mI (32661 : Int)), some (mI (fO w)), some (mI (y : Int)), none], [mI (b2 (bytN w = 8 ∧ b % 8 = 0))], ρ) = RR (lkB tb512) (B512_244, [some (mR (some 80)), some (mL w), none, some (mI (fOp w)), some (mI ((bytN w : Nat) : Int)), some (mI (32661 : Int)), some (mI (fO w)), some (mI (y : Int)), some (mI (b2 (bytN w = 8 ∧ b % 8 = 0)))], [], ρ) := by
              by_cases W : bytN w = 8 ∧ b % 8 = 0
              · obtain ⟨A1, A2⟩ := A
                have A3 := A2.resolve_left (fun q => q W)
                have A4 : ¬ vw Y ≤ gI ρ 80 103 := by omega
                have A5 : ¬ (3 : Int) = 1 := by decide
                simp only [e512_201, Option.getD_some, Option.bind_some, Option.toList_some, Option.toList_none, List.cons_append, List.nil_append, and_self, and_true, true_and, false_and, and_false, ite_self, not_true_eq_false, not_false_eq_true, reduceIte, Nat.reduceEqDiff, ab_I, ab_L, ab_R, ao_I, ao_L, ao_R, gL_sL, gI_sI, gR_sR, gI_sL, gI_sR, gL_sI, gL_sR, gR_sI, gR_sL, g_118, g_120, h13.1, h13.2, Int.toNat_natCast, r8, r9, A3.1, A5, b2_0', W, A4]
              · simp only [e512_201, Option.getD_some, Option.bind_some, Option.toList_some, Option.toList_none, List.cons_append, List.nil_append, and_self, and_true, true_and, false_and, and_false, ite_self, not_true_eq_false, not_false_eq_true, reduceIte, Nat.reduceEqDiff, ab_I, ab_L, ab_R, ao_I, ao_L, ao_R, gL_sL, gI_sI, gR_sR, gI_sL, gI_sR, gL_sI, gL_sR, gR_sI, gR_sL, g_118, h13.1, h13.2, Int.toNat_natCast, r8, A.1, b2_0', W]
            rw [s244]
            simp only [e512_244, e512_250, Option.getD_some, Option.bind_some, Option.toList_some, Option.toList_none, List.cons_append, List.nil_append, and_self, and_true, true_and, false_and, and_false, ite_self, not_true_eq_false, not_false_eq_true, reduceIte, Nat.reduceEqDiff, ab_I, ab_L, ab_R, ao_I, ao_L, ao_R, gL_sL, gI_sI, gR_sR, gI_sL, gI_sR, gL_sI, gL_sR, gR_sI, gR_sL, T473]
            exact okc_s (sH_no h (by decide) r1 (sqc_r _))
          · rw [if_neg A] at un
            have s251 : RR (lkB tb512) (B512_201, [some (mR (some 80)), some (mL w), none, some (mI (fOp w)), some (mI ((bytN w : Nat) : Int)), some (mI (32661 : Int)), some (mI (fO w)), some (mI (y : Int)), none], [mI (b2 (bytN w = 8 ∧ b % 8 = 0))], ρ) = RR (lkB tb512) (B512_251, [some (mR (some 80)), some (mL w), none, some (mI (fOp w)), some (mI ((bytN w : Nat) : Int)), some (mI (32661 : Int)), some (mI (fO w)), some (mI (y : Int)), some (mI (b2 (bytN w = 8 ∧ b % 8 = 0)))], [], ρ) := by
              by_cases A1 : vk Y = 1
              · simp only [e512_201, Option.getD_some, Option.bind_some, Option.toList_some, Option.toList_none, List.cons_append, List.nil_append, and_self, and_true, true_and, false_and, and_false, ite_self, not_true_eq_false, not_false_eq_true, reduceIte, Nat.reduceEqDiff, ab_I, ab_L, ab_R, ao_I, ao_L, ao_R, gL_sL, gI_sI, gR_sR, gI_sL, gI_sR, gL_sI, gL_sR, gR_sI, gR_sL, g_118, h13.1, h13.2, Int.toNat_natCast, r8, A1]
              · have W : bytN w = 8 ∧ b % 8 = 0 := Classical.byContradiction fun z => A ⟨A1, Or.inl z⟩
                by_cases A2 : vk Y = 3
                · have A4 : vw Y ≤ gI ρ 80 103 := by
                    have : ¬ vw (rgV S (dR w)) < vw Y := fun z => A ⟨A1, Or.inr ⟨A2, z⟩⟩
                    omega
                  have A5 : ¬ (3 : Int) = 1 := by decide
                  simp only [e512_201, Option.getD_some, Option.bind_some, Option.toList_some, Option.toList_none, List.cons_append, List.nil_append, and_self, and_true, true_and, false_and, and_false, ite_self, not_true_eq_false, not_false_eq_true, reduceIte, Nat.reduceEqDiff, ab_I, ab_L, ab_R, ao_I, ao_L, ao_R, gL_sL, gI_sI, gR_sR, gI_sL, gI_sR, gL_sI, gL_sR, gR_sI, gR_sL, g_118, g_120, h13.1, h13.2, Int.toNat_natCast, r8, r9, A2, A5, b2_0', W, A4]
                · simp only [e512_201, Option.getD_some, Option.bind_some, Option.toList_some, Option.toList_none, List.cons_append, List.nil_append, and_self, and_true, true_and, false_and, and_false, ite_self, not_true_eq_false, not_false_eq_true, reduceIte, Nat.reduceEqDiff, ab_I, ab_L, ab_R, ao_I, ao_L, ao_R, gL_sL, gI_sI, gR_sR, gI_sL, gI_sR, gL_sI, gL_sR, gR_sI, gR_sL, g_118, g_120, h13.1, h13.2, Int.toNat_natCast, r8, A1, A2, b2_0', W]
            rw [s251]
            by_cases W : bytN w = 8 ∧ b % 8 = 0
            · rw [if_pos W] at un
              rw [un, b2_yes W]
              generalize hp : 26 * (vw (rgV S (dR w))).toNat + 10 + b / 8 = p at lp t4 ⊢
              have ip : inB (p : Int) := ⟨by omega, by omega⟩
              have tv := T430 (σ := ρ) h13 ip (by rw [Int.toNat_natCast, r7]; omega)
              simp only [Int.toNat_natCast, r7] at tv
              simp only [e512_251, e512_267, e512_270, e512_290, Option.getD_some, Option.bind_some, Option.toList_some, Option.toList_none, List.cons_append, List.nil_append, and_self, and_true, true_and, false_and, and_false, ite_self, not_true_eq_false, not_false_eq_true, reduceIte, Nat.reduceEqDiff, ab_I, ab_L, ab_R, ao_I, ao_L, ao_R, gL_sL, gI_sI, gR_sR, gI_sL, gI_sR, gL_sI, gL_sR, gR_sI, gR_sL, oneI, r2, t4, tv]
              refine okc_s ?_
              have e85 : sI σ 80 85 t = σ := by rw [← h6]; exact sI_eta _ _ _
              refine jpo_w h5 h1 hF.2 lp rfl ?_
              rw [e85]
              exact sqc_wV (sqc_t r1 h10)
            · rw [if_neg W] at un
              rw [un, b2_no W]
              have t7 := L507 (σ := ρ) (n := bytN w) (b := b) (f := (vw (rgV S (dR w))).toNat) (Q := fun m => putB S (vw (rgV S (dR w))).toNat b m m) hF.2 (by show (vw (rgV S (dR w))).toNat < sF S; omega) r2 hfr bb (fun m hm => one_a h3 (by omega)) (fun m _ => can_put h3) (by show J0 ρ (putB S (vw (rgV S (dR w))).toNat b 0 0); rw [putB_0]; exact r5)
              simp only [e512_251, Option.getD_some, Option.bind_some, Option.toList_some, Option.toList_none, List.cons_append, List.nil_append, and_self, and_true, true_and, false_and, and_false, ite_self, not_true_eq_false, not_false_eq_true, reduceIte, Nat.reduceEqDiff, ab_I, ab_L, ab_R, ao_I, ao_L, ao_R, gL_sL, gI_sI, gR_sR, gI_sL, gI_sR, gL_sI, gL_sR, gR_sI, gR_sL, g_118, Int.reduceLT, Int.reduceLE, nX, r6]
              refine okc_b t7 fun τ q => ?_
              simp only [Option.toList_none, List.nil_append, e512_290]
              refine okc_s ?_
              obtain ⟨q1, q2, q3, q4⟩ := q
              have s1 := sqc_t r1 h10
              have jqt : jq τ ρ := ⟨fun k s z => q2 k s (fun y => z (Or.inl ⟨y.1, Or.inl y.2⟩)), fun k s z => q3 k s (fun y => z ⟨y.1, Or.inl y.2⟩), q4⟩
              refine ⟨jq_t jqt (jq_sq s1), ?_, fun _ => ⟨q1, ?_, ?_, ?_⟩⟩
              · rw [q2 _ _ (by omega), sqc_I s1 (by omega) (by omega), h5]
              · rw [q2 _ _ (by omega), sqc_I s1 (by omega) (by omega)]
              · rw [q2 _ _ (by omega), sqc_I s1 (by omega) (by omega)]
              · rw [q2 _ _ (by omega), sqc_I s1 (by omega) (by omega), h6]
        · rw [if_neg k3]
          have un : stoV E S w = if ¬ vk Y = 1 then (7, S) else (0, S) := by
            unfold stoV
            rw [eY, if_neg hk, if_neg hky, if_neg c2, if_neg (not_not_intro c3), if_neg (not_not_intro c5)]
            by_cases A : vk Y = 1
            · rw [if_neg (fun q => q.1 A), if_neg (fun q => k3 q.1), if_neg k3, if_neg (not_not_intro A)]
            · rw [if_pos ⟨A, Or.inl (fun q => k3 q.1)⟩, if_pos A]
          have s201 : RR (lkB tb512) (B512_159, [some (mR (some 80)), some (mL w), none, some (mI (fOp w)), some (mI ((bytN w : Nat) : Int)), some (mI (32661 : Int)), some (mI (fO w)), some (mI (y : Int)), none], [mI 1], σ1) = RR (lkB tb512) (B512_201, [some (mR (some 80)), some (mL w), none, some (mI (fOp w)), some (mI ((bytN w : Nat) : Int)), some (mI (32661 : Int)), some (mI (fO w)), some (mI (y : Int)), none], [mI 0], σ1) := by
            simp only [e512_159, e512_200, Option.getD_some, Option.bind_some, Option.toList_some, Option.toList_none, List.cons_append, List.nil_append, and_self, and_true, true_and, false_and, and_false, ite_self, not_true_eq_false, not_false_eq_true, reduceIte, Nat.reduceEqDiff, ab_I, ab_L, ab_R, ao_I, ao_L, ao_R, gL_sL, gI_sI, gR_sR, gI_sL, gI_sR, gL_sI, gL_sR, gR_sI, gR_sL, oneI, g_118, Int.reduceLT, Int.reduceLE, nX, k118, k3]
          rw [s201, un]
          by_cases A : vk Y = 1
          · rw [if_neg (not_not_intro A)]
            simp only [e512_201, e512_251, e512_290, Option.getD_some, Option.bind_some, Option.toList_some, Option.toList_none, List.cons_append, List.nil_append, and_self, and_true, true_and, false_and, and_false, ite_self, not_true_eq_false, not_false_eq_true, reduceIte, Nat.reduceEqDiff, ab_I, ab_L, ab_R, ao_I, ao_L, ao_R, gL_sL, gI_sI, gR_sR, gI_sL, gI_sR, gL_sI, gL_sR, gR_sI, gR_sL, g_118, Int.reduceLT, Int.reduceLE, nX, h13.1, h13.2, Int.toNat_natCast, k118y, A, k118, k3]
            exact okc_s (sH_ok h (sqc_r _) (sqc_r _))
          · rw [if_pos A]
            simp only [e512_201, e512_244, e512_250, Option.getD_some, Option.bind_some, Option.toList_some, Option.toList_none, List.cons_append, List.nil_append, and_self, and_true, true_and, false_and, and_false, ite_self, not_true_eq_false, not_false_eq_true, reduceIte, Nat.reduceEqDiff, ab_I, ab_L, ab_R, ao_I, ao_L, ao_R, gL_sL, gI_sI, gR_sR, gI_sL, gI_sR, gL_sI, gL_sR, gR_sI, gR_sL, g_118, h13.1, h13.2, Int.toNat_natCast, k118y, A, T473]
            exact okc_s (sH_no h (by decide) (sqc_r _) (sqc_r _))
      · have un : stoV E S w = (5, S) := by
          unfold stoV
          rw [eY, if_neg hk, if_neg hky, if_neg c2, if_neg (not_not_intro c3), if_pos c5]
        rw [b2_no c5, un]
        generalize hρ : (if vk (rgV S (dR w)) = 3 then sI (sI σ1 80 103 (vw (rgV S (dR w)))) 80 102 (vo (rgV S (dR w)) + fO w + 128) else σ1) = ρ
        have r1 : sqc ρ σ1 := by
          rw [← hρ]
          split
          · exact sqc_pb
          · exact sqc_r _
        simp only [e512_159, e512_167, Option.getD_some, Option.bind_some, Option.toList_some, Option.toList_none, List.cons_append, List.nil_append, and_self, and_true, true_and, false_and, and_false, ite_self, not_true_eq_false, not_false_eq_true, reduceIte, Nat.reduceEqDiff, ab_I, ab_L, ab_R, ao_I, ao_L, ao_R, gL_sL, gI_sI, gR_sR, gI_sL, gI_sR, gL_sI, gL_sR, gR_sI, gR_sL, T473]
        exact okc_s (sH_no h (by decide) r1 (sqc_r _))
    · have un : stoV E S w = (plcF (rgV S (dR w)), S) := by
        unfold stoV
        rw [eY, if_neg hk, if_neg hky, if_neg c2, if_pos c3]
      have z1 : ∀ d : Decidable (fst (0 : Int) (plcF (rgV S (dR w))) = 0), @b2 (fst (0 : Int) (plcF (rgV S (dR w))) = 0) d = 0 := fun d => b2_no (by rw [fst0]; exact c3)
      rw [un]
      simp only [e512_80, e512_145, Option.getD_some, Option.bind_some, Option.toList_some, Option.toList_none, List.cons_append, List.nil_append, and_self, and_true, true_and, false_and, and_false, ite_self, not_true_eq_false, not_false_eq_true, reduceIte, Nat.reduceEqDiff, ab_I, ab_L, ab_R, ao_I, ao_L, ao_R, gL_sL, gI_sI, gR_sR, gI_sL, gI_sR, gL_sI, gL_sR, gR_sI, gR_sL, g0, g_118, Int.reduceLT, Int.reduceLE, nX, k118, c2, T510 bX, h11, z1]
      exact okc_s (sH_no h c3 (sqc_r _) (sqc_r _))
theorem T512 (hJ : J0 σ S) (ho : okS E t S) (hc : canS S) (hE : EO σ E) (hw : okMem w) (hl : fL w = 2 ∨ fL w = 3 ∧ fM w = 96) (h0 : gI σ 80 90 = 0) (ht : gI σ 80 85 = t) : okc (MM 512 [mR (some 80), mL w, mI (fOp w), mI ((bytN w : Nat) : Int)] σ) none (fun τ => jpo σ τ (stoV E S w).1 (stoV E S w).2 (gI σ 80 88) (gI σ 80 89) t) := by
  have hF := ho.1
  have f := fld_rng w
  have f1 : 0 ≤ fD w := f.2.1.1
  have f2 : 0 ≤ fS w := f.2.2.1.1
  have hd : fD w ≤ 10 ∧ (fL w = 3 → fS w ≤ 10) := by
    have := hw
    unfold okMem at this
    rcases hl with hl | hl
    · rw [if_neg (by omega), if_pos hl] at this
      exact ⟨this.2.1, fun z => by omega⟩
    · rw [if_neg (by omega), if_neg (by omega), if_pos hl.2] at this
      exact ⟨this.1, fun _ => this.2.1⟩
  have d10 : dR w ≤ 10 := by unfold dR; omega
  have t1 := T492 (σ := σ) (r := fD w) ⟨f1, hd.1⟩ (by rw [hJ.1]; omega)
  have ip := plc_b hJ.1 hF (r := fD w) ⟨f1, hd.1⟩
  have vx := at_v hJ hF (r := fD w) ⟨f1, hd.1⟩
  generalize plc (gI σ 123 0) (fD w) = px at t1 ip vx
  generalize hσ1 : mk10 σ (fD w) = σ1 at t1 vx
  have r1 : sqc σ1 σ := by rw [← hσ1]; exact mk_sq
  have okX := okV_r ho d10
  have bK : inB 32661 := by decide
  have tk := T430 (σ := flt σ1 (wntS (rgV S (dR w)))) ip bK (by rw [Int.toNat_natCast, aV_flt, vx]; have := okX.1; omega)
  rw [Int.toNat_natCast, aV_flt, vx, wrV_flt] at tk
  generalize hσ2 : wrV σ1 (32661 : Int).toNat (rgV S (dR w)) = σ2 at tk
  have r2 : sqc σ2 σ := by rw [← hσ2]; exact sqc_t (sqc_w (by decide)) r1
  have v2 : aV σ2 32661 = (rgV S (dR w)) := by rw [← hσ2]; exact aV_same
  have g0 : gI σ2 80 90 = 0 := (sqc_I r2 (by omega) (by omega)).trans h0
  have s31 : MM 512 [mR (some 80), mL w, mI (fOp w), mI ((bytN w : Nat) : Int)] σ = RR (lkB tb512) (B512_31, [some (mR (some 80)), some (mL w), none, some (mI (fOp w)), some (mI ((bytN w : Nat) : Int)), some (mI (px : Int)), some (mI (fO w)), none, none], [], flt σ2 (wntS (rgV S (dR w)))) := by
    simp only [M512, e512_0, e512_5, e512_8, e512_14, e512_22, Option.getD_some, Option.bind_some, Option.toList_some, Option.toList_none, List.cons_append, List.nil_append, and_self, and_true, true_and, false_and, and_false, ite_self, not_true_eq_false, not_false_eq_true, reduceIte, Nat.reduceEqDiff, ab_I, ab_L, ab_R, ao_I, ao_L, ao_R, gL_sL, gI_sI, gR_sR, gI_sL, gI_sR, gL_sI, gL_sR, gR_sI, gR_sL, T333, T335, t1, T494 ip, Int.toNat_natCast, vx, tk]
  rw [s31]
  have key : ∀ (y : Nat) (σ3 : MS), sH4 S E w t σ σ3 y → okc (RR (lkB tb512) (B512_80, [some (mR (some 80)), some (mL w), none, some (mI (fOp w)), some (mI ((bytN w : Nat) : Int)), some (mI (32661 : Int)), some (mI (fO w)), some (mI (y : Int)), none], [], flt σ3 (fst (wntS (rgV S (dR w))) (wntS (if fL w = 3 then rgV S (sRr w) else numV (cstN (iL (fI w)))))))) none (fun τ => jpo σ τ (stoV E S w).1 (stoV E S w).2 (gI σ 80 88) (gI σ 80 89) t) := by
    intro y σ3 H
    have H0 : gI σ3 80 90 = 0 := by
      obtain ⟨-, -, -, ⟨z, -⟩⟩ := H
      exact (sqc_I z (by omega) (by omega)).trans h0
    have bad : stoV E S w = (3, S) → fst (wntS (rgV S (dR w))) (wntS (if fL w = 3 then rgV S (sRr w) else numV (cstN (iL (fI w))))) = 3 → okc (RR (lkB tb512) (B512_80, [some (mR (some 80)), some (mL w), none, some (mI (fOp w)), some (mI ((bytN w : Nat) : Int)), some (mI (32661 : Int)), some (mI (fO w)), some (mI (y : Int)), none], [], flt σ3 (fst (wntS (rgV S (dR w))) (wntS (if fL w = 3 then rgV S (sRr w) else numV (cstN (iL (fI w)))))))) none (fun τ => jpo σ τ (stoV E S w).1 (stoV E S w).2 (gI σ 80 88) (gI σ 80 89) t) := fun u1 u2 => by
      have g : ¬ gI (flt σ3 3) 80 90 = 0 := by rw [fl_g, H0, fst0]; decide
      rw [u1, u2]
      simp only [e512_80, Option.getD_some, Option.bind_some, Option.toList_some, Option.toList_none, List.cons_append, List.nil_append, and_self, and_true, true_and, false_and, and_false, ite_self, not_true_eq_false, not_false_eq_true, reduceIte, Nat.reduceEqDiff, ab_I, ab_L, ab_R, ao_I, ao_L, ao_R, gL_sL, gI_sI, gR_sR, gI_sL, gI_sR, gL_sI, gL_sR, gR_sI, gR_sL, g]
      exact okc_s (sH_no H (by decide) (sqc_r _) (sqc_r _))
    by_cases k : vk (rgV S (dR w)) = 0
    · refine bad ?_ ?_
      · unfold stoV
        rw [if_pos k]
      · rw [show wntS (rgV S (dR w)) = 3 from if_pos k]
        rfl
    · have e1 : wntS (rgV S (dR w)) = 0 := if_neg k
      by_cases ky : vk (if fL w = 3 then rgV S (sRr w) else numV (cstN (iL (fI w)))) = 0
      · refine bad ?_ ?_
        · unfold stoV
          rw [if_neg k]
          exact if_pos ky
        · rw [e1, fst0]
          exact if_pos ky
      · have e2 : wntS (if fL w = 3 then rgV S (sRr w) else numV (cstN (iL (fI w)))) = 0 := if_neg ky
        rw [e1, e2, fst0, flt_0]
        exact L512 H k ky
  by_cases l3 : fL w = 3
  · have hs := hd.2 l3
    have s10 : sRr w ≤ 10 := by unfold sRr; omega
    have eY : (if fL w = 3 then rgV S (sRr w) else numV (cstN (iL (fI w)))) = rgV S (sRr w) := if_pos l3
    have okY := okV_r ho s10
    have J2 : J0 σ2 S := JSt_sq r2 (by omega) hF.2 hJ
    have t9 := T492 (σ := flt σ2 (wntS (rgV S (dR w)))) (r := fS w) ⟨f2, hs⟩ (by rw [fl_o (by omega), J2.1]; omega)
    rw [fl_o (by omega), mk_flt] at t9
    have iy := plc_b J2.1 hF (r := fS w) ⟨f2, hs⟩
    have vy := at_v J2 hF (r := fS w) ⟨f2, hs⟩
    have n61 : ¬ (plc (gI σ2 123 0) (fS w)) = 32661 := by
      by_cases e : fS w = 10
      · rw [e, plc_10]
        decide
      · rw [plc_9 J2.1 hF.1 f2 (by omega)]
        omega
    generalize plc (gI σ2 123 0) (fS w) = y at t9 iy vy n61
    have v3 : aV (mk10 σ2 (fS w)) 32661 = (rgV S (dR w)) := by rw [mk_V, if_neg (by omega), v2]
    generalize hσ3 : mk10 σ2 (fS w) = σ3 at t9 vy v3
    have r3 : sqc σ3 σ := by rw [← hσ3]; exact sqc_t mk_sq r2
    have s80 : RR (lkB tb512) (B512_31, [some (mR (some 80)), some (mL w), none, some (mI (fOp w)), some (mI ((bytN w : Nat) : Int)), some (mI (px : Int)), some (mI (fO w)), none, none], [], flt σ2 (wntS (rgV S (dR w)))) = RR (lkB tb512) (B512_80, [some (mR (some 80)), some (mL w), none, some (mI (fOp w)), some (mI ((bytN w : Nat) : Int)), some (mI (32661 : Int)), some (mI (fO w)), some (mI (y : Int)), none], [], flt σ3 (fst (wntS (rgV S (dR w))) (wntS (if fL w = 3 then rgV S (sRr w) else numV (cstN (iL (fI w))))))) := by
      simp only [e512_31, e512_54, e512_57, e512_65, Option.getD_some, Option.bind_some, Option.toList_some, Option.toList_none, List.cons_append, List.nil_append, and_self, and_true, true_and, false_and, and_false, ite_self, not_true_eq_false, not_false_eq_true, reduceIte, Nat.reduceEqDiff, ab_I, ab_L, ab_R, ao_I, ao_L, ao_R, gL_sL, gI_sI, gR_sR, gI_sL, gI_sR, gL_sI, gL_sR, gR_sI, gR_sL, m7, l3, T334, t9, T494 iy, Int.toNat_natCast, aV_flt, vy, flt_flt]
    rw [s80]
    exact key y σ3 ⟨⟨hJ, ho, hc, hE⟩, ⟨h0, ht⟩, ⟨d10, by rw [eY]; exact okY.1⟩, ⟨r3, v3, by rw [eY]; exact vy, iy⟩⟩
  · have eY : (if fL w = 3 then rgV S (sRr w) else numV (cstN (iL (fI w)))) = numV (cstN (iL (fI w))) := if_neg l3
    have kY : vk (if fL w = 3 then rgV S (sRr w) else numV (cstN (iL (fI w)))) = 1 := by rw [eY]; rfl
    have e0 : fst (wntS (rgV S (dR w))) (wntS (if fL w = 3 then rgV S (sRr w) else numV (cstN (iL (fI w))))) = wntS (rgV S (dR w)) := by
      have : wntS (if fL w = 3 then rgV S (sRr w) else numV (cstN (iL (fI w)))) = 0 := if_neg (by omega)
      rw [this]
      unfold fst
      split
      · rename_i z; exact z.symm
      · rfl
    have bY : inB 32657 := by decide
    have s80 : RR (lkB tb512) (B512_31, [some (mR (some 80)), some (mL w), none, some (mI (fOp w)), some (mI ((bytN w : Nat) : Int)), some (mI (px : Int)), some (mI (fO w)), none, none], [], flt σ2 (wntS (rgV S (dR w)))) = RR (lkB tb512) (B512_80, [some (mR (some 80)), some (mL w), none, some (mI (fOp w)), some (mI ((bytN w : Nat) : Int)), some (mI (32661 : Int)), some (mI (fO w)), some (mI ((32657 : Nat) : Int)), none], [], flt (wrV σ2 32657 (numV (cstN (iL (fI w))))) (fst (wntS (rgV S (dR w))) (wntS (if fL w = 3 then rgV S (sRr w) else numV (cstN (iL (fI w))))))) := by
      rw [e0, ← wrV_flt]
      simp only [e512_31, e512_76, Option.getD_some, Option.bind_some, Option.toList_some, Option.toList_none, List.cons_append, List.nil_append, and_self, and_true, true_and, false_and, and_false, ite_self, not_true_eq_false, not_false_eq_true, reduceIte, Nat.reduceEqDiff, ab_I, ab_L, ab_R, ao_I, ao_L, ao_R, gL_sL, gI_sI, gR_sR, gI_sL, gI_sR, gL_sI, gL_sR, gR_sI, gR_sL, m7, l3, T336, T433 bY.1 bY.2]
      rfl
    rw [s80]
    refine key 32657 _ ⟨⟨hJ, ho, hc, hE⟩, ⟨h0, ht⟩, ⟨d10, by omega⟩, ⟨sqc_t (sqc_w (by decide)) r2, ?_, ?_, bY⟩⟩
    · rw [aV_ne (by decide), v2]
    · rw [aV_same, eY]
end STO
-- FILE 41.swp
/-! ===== the reference's judge: C3, DB; memory ===== -/
section SWP
variable {w : B64} {S : ST} {E : EV} {t : Int} {σ σ1 : MS} {y z : Nat}
def wH (S : ST) (E : EV) (w : B64) (t : Int) (σ σ1 : MS) (y z : Nat) : Prop := (J0 σ S ∧ okS E t S ∧ canS S ∧ EO σ E) ∧ (gI σ 80 90 = 0 ∧ gI σ 80 85 = t) ∧ (dR w ≤ 10 ∧ sRr w ≤ 10 ∧ z = 26 * (sF S - 1) ∧ (fI w % 2 = 1 → ¬ fI w = 241 → sRr w ≤ 9 ∧ y = 26 * (sF S - 1) + sRr w)) ∧ (sqc σ1 σ ∧ aV σ1 32661 = (rgV S (dR w)) ∧ aV σ1 y = (rgV S (sRr w)) ∧ inB (y : Int))
theorem wH_no (h : wH S E w t σ σ1 y z) {f : Int} {S' : ST} {τ ρ : MS} (hf : ¬ f = 0) (hr : sqc ρ σ1) (hq : sqc τ (flt ρ f)) : jpo σ τ f S' (gI σ 80 88) (gI σ 80 89) t := by
  obtain ⟨-, ⟨h5, -⟩, -, ⟨h10, -, -, -⟩⟩ := h
  exact jpo_f hf h5 (sqc_t hq (sqc_flt (sqc_t hr h10)))
/-- the register that is answered -/
theorem L513e (h : wH S E w t σ σ1 y z) {S1 : ST} {ρ : MS} (j1 : J0 ρ S1) (f1 : sF S1 = sF S) (jr : jq ρ σ) (g : gI ρ 80 90 = 0 ∧ gI ρ 80 88 = gI σ 80 88 ∧ gI ρ 80 89 = gI σ 80 89 ∧ gI ρ 80 85 = t) (hv : swpV E S w = (0, if fI w = 241 then wV S1 0 (numV (wideN (bytN w))) else if fI w % 2 = 1 then wV S1 (sRr w) (numV (wideN (bytN w))) else S1)) : okc (RR (lkB tb513) (B513_251, [some (mR (some 80)), some (mL w), none, some (mI ((bytN w : Nat) : Int)), some (mI (32661 : Int)), some (mI (fI w)), some (mI (z : Int)), some (mI (y : Int))], [], ρ)) none (fun τ => jpo σ τ (swpV E S w).1 (swpV E S w).2 (gI σ 80 88) (gI σ 80 89) t) := by
  have h' := h
  obtain ⟨⟨h1, h2, h3, h4⟩, ⟨h5, h6⟩, ⟨h7, h8, h9, h9b⟩, ⟨h10, h11, h12, h13⟩⟩ := h'
  have hF := h2.1
  have bn := bytN_c w
  have fin : ∀ (k r : Nat), k = 26 * (sF S - 1) + r → k < 104 → jpo σ (wrV ρ k (numV (wideN (bytN w)))) 0 (wV S1 r (numV (wideN (bytN w)))) (gI σ 80 88) (gI σ 80 89) t := fun k r e l => by
    refine ⟨jq_t (jq_w (Or.inl l)) jr, by rw [gW80]; exact g.1, fun _ => ⟨?_, by rw [gW80]; exact g.2.1, by rw [gW80]; exact g.2.2.1, by rw [gW80]; exact g.2.2.2⟩⟩
    have := J0_wV (k := k) (v := numV (wideN (bytN w))) (by omega) j1
    rw [e, ← f1] at this
    rw [e, ← f1]
    exact this
  rw [hv]
  by_cases c : fI w = 241
  · rw [if_pos c]
    have iz : inB (z : Int) := ⟨by omega, by omega⟩
    simp only [e513_251, e513_266, e513_284, Option.getD_some, Option.bind_some, Option.toList_some, Option.toList_none, List.cons_append, List.nil_append, and_self, and_true, true_and, false_and, and_false, ite_self, not_true_eq_false, not_false_eq_true, reduceIte, Nat.reduceEqDiff, ab_I, ab_L, ab_R, ao_I, ao_L, ao_R, gL_sL, gI_sI, gR_sR, gI_sL, gI_sR, gL_sI, gL_sR, gR_sI, gR_sL, c, T437 iz.1 iz.2 (show bytN w ≤ 8 by omega), Int.toNat_natCast]
    exact okc_s (fin z 0 (by omega) (by omega))
  · rw [if_neg c]
    by_cases d : fI w % 2 = 1
    · rw [if_pos d]
      obtain ⟨e1, e2⟩ := h9b d c
      simp only [e513_251, e513_284, Option.getD_some, Option.bind_some, Option.toList_some, Option.toList_none, List.cons_append, List.nil_append, and_self, and_true, true_and, false_and, and_false, ite_self, not_true_eq_false, not_false_eq_true, reduceIte, Nat.reduceEqDiff, ab_I, ab_L, ab_R, ao_I, ao_L, ao_R, gL_sL, gI_sI, gR_sR, gI_sL, gI_sR, gL_sI, gL_sR, gR_sI, gR_sL, c, iAnd1, d, T437 h13.1 h13.2 (show bytN w ≤ 8 by omega), Int.toNat_natCast]
      exact okc_s (fin y (sRr w) e2 (by omega))
    · rw [if_neg d]
      simp only [e513_251, e513_284, Option.getD_some, Option.bind_some, Option.toList_some, Option.toList_none, List.cons_append, List.nil_append, and_self, and_true, true_and, false_and, and_false, ite_self, not_true_eq_false, not_false_eq_true, reduceIte, Nat.reduceEqDiff, ab_I, ab_L, ab_R, ao_I, ao_L, ao_R, gL_sL, gI_sI, gR_sR, gI_sL, gI_sR, gL_sI, gL_sR, gR_sI, gR_sL, c, iAnd1, d]
      exact okc_s ⟨jr, g.1, fun _ => ⟨j1, g.2.1, g.2.2.1, g.2.2.2⟩⟩
set_option maxHeartbeats 2000000 in
theorem L513 (h : wH S E w t σ σ1 y z) (hk : ¬ vk (rgV S (dR w)) = 0) (hky : ¬ vk (rgV S (sRr w)) = 0) (hkz : fI w = 241 → ¬ vk (rgV S 0) = 0) : okc (RR (lkB tb513) (B513_73, [some (mR (some 80)), some (mL w), none, some (mI ((bytN w : Nat) : Int)), some (mI (32661 : Int)), some (mI (fI w)), some (mI (z : Int)), some (mI (y : Int))], [], σ1)) none (fun τ => jpo σ τ (swpV E S w).1 (swpV E S w).2 (gI σ 80 88) (gI σ 80 89) t) := by
  have h' := h
  obtain ⟨⟨h1, h2, h3, h4⟩, ⟨h5, h6⟩, ⟨h7, h8, h9, h9b⟩, ⟨h10, h11, h12, h13⟩⟩ := h'
  have hF := h2.1
  have bX : inB 32661 := by decide
  have nX : (32661 : Int).toNat = 32661 := rfl
  have iz : inB (z : Int) := ⟨by omega, by omega⟩
  have g0 : gI σ1 80 90 = 0 := (sqc_I h10 (by omega) (by omega)).trans h5
  have okX := okV_r h2 h7
  have canX := can_r h3 hF.1 h7
  have fo := fO_r w
  have bn := bytN_c w
  have k118 : gI σ1 118 32661 = vk (rgV S (dR w)) := by rw [q118, h11]
  have J1 : J0 σ1 S := JSt_sq h10 (by omega) hF.2 h1
  have vz : ∀ ρ : MS, sqc ρ σ1 → gI ρ 118 z = vk (rgV S 0) := fun ρ r => by
    have e : aV ρ z = (rgV S 0) := by
      rw [sqc_V r (by omega), J0_v J1 (by omega), h9]
      rfl
    rw [q118, e]
  have n3 : ¬ (vk (rgV S (dR w)) = 0 ∨ fI w = 241 ∧ vk (rgV S 0) = 0 ∨ vk (rgV S (sRr w)) = 0) := fun q => by
    rcases q with q | q | q
    · exact hk q
    · exact hkz q.1 q.2
    · exact hky q
  have bad : ∀ (f : Int) (ρ : MS), ¬ f = 0 → sqc ρ σ1 → swpV E S w = (f, S) → okc (RR (lkB tb513) (B513_227, [some (mR (some 80)), some (mL w), none, some (mI ((bytN w : Nat) : Int)), some (mI (32661 : Int)), some (mI (fI w)), some (mI (z : Int)), some (mI (y : Int))], [], flt ρ f)) none (fun τ => jpo σ τ (swpV E S w).1 (swpV E S w).2 (gI σ 80 88) (gI σ 80 89) t) := fun f ρ hf hr hu => by
    have g : ¬ gI (flt ρ f) 80 90 = 0 := by rw [fl_g, sqc_I hr (by omega) (by omega), g0, fst0]; exact hf
    rw [hu]
    simp only [e513_227, Option.getD_some, Option.bind_some, Option.toList_some, Option.toList_none, List.cons_append, List.nil_append, and_self, and_true, true_and, false_and, and_false, ite_self, not_true_eq_false, not_false_eq_true, reduceIte, Nat.reduceEqDiff, ab_I, ab_L, ab_R, ao_I, ao_L, ao_R, gL_sL, gI_sI, gR_sR, gI_sL, gI_sR, gL_sI, gL_sR, gR_sI, gR_sL, g]
    exact okc_s (wH_no h hf hr (sqc_r _))
  by_cases c1 : isMb (rgV S (dR w))
  · have un : swpV E S w = (14, S) := by
      unfold swpV
      rw [if_neg n3, if_pos c1]
    have s : RR (lkB tb513) (B513_73, [some (mR (some 80)), some (mL w), none, some (mI ((bytN w : Nat) : Int)), some (mI (32661 : Int)), some (mI (fI w)), some (mI (z : Int)), some (mI (y : Int))], [], σ1) = RR (lkB tb513) (B513_227, [some (mR (some 80)), some (mL w), none, some (mI ((bytN w : Nat) : Int)), some (mI (32661 : Int)), some (mI (fI w)), some (mI (z : Int)), some (mI (y : Int))], [], flt σ1 14) := by
      simp only [e513_73, e513_87, e513_96, Option.getD_some, Option.bind_some, Option.toList_some, Option.toList_none, List.cons_append, List.nil_append, and_self, and_true, true_and, false_and, and_false, ite_self, not_true_eq_false, not_false_eq_true, reduceIte, Nat.reduceEqDiff, ab_I, ab_L, ab_R, ao_I, ao_L, ao_R, gL_sL, gI_sI, gR_sR, gI_sL, gI_sR, gL_sI, gL_sR, gR_sI, gR_sL, g0, T493 bX, nX, h11, b2_0', c1, T473]
    rw [s]
    exact bad 14 σ1 (by decide) (sqc_r _) un
  · by_cases c2 : ¬ vk (rgV S (dR w)) = 3 ∧ ¬ vk (rgV S (dR w)) = 5 ∧ ¬ vk (rgV S (dR w)) = 9
    · have un : swpV E S w = (4, S) := by
        unfold swpV
        rw [if_neg n3, if_neg c1, if_pos c2]
      have s : RR (lkB tb513) (B513_73, [some (mR (some 80)), some (mL w), none, some (mI ((bytN w : Nat) : Int)), some (mI (32661 : Int)), some (mI (fI w)), some (mI (z : Int)), some (mI (y : Int))], [], σ1) = RR (lkB tb513) (B513_227, [some (mR (some 80)), some (mL w), none, some (mI ((bytN w : Nat) : Int)), some (mI (32661 : Int)), some (mI (fI w)), some (mI (z : Int)), some (mI (y : Int))], [], flt σ1 4) := by
        simp only [e513_73, e513_87, e513_138, Option.getD_some, Option.bind_some, Option.toList_some, Option.toList_none, List.cons_append, List.nil_append, and_self, and_true, true_and, false_and, and_false, ite_self, not_true_eq_false, not_false_eq_true, reduceIte, Nat.reduceEqDiff, ab_I, ab_L, ab_R, ao_I, ao_L, ao_R, gL_sL, gI_sI, gR_sR, gI_sL, gI_sR, gL_sI, gL_sR, gR_sI, gR_sL, g0, T493 bX, nX, h11, b2_0', c1, T473, g_118, Int.reduceLT, Int.reduceLE, k118, c2.1, c2.2.1, c2.2.2]
      rw [s]
      exact bad 4 σ1 (by decide) (sqc_r _) un
    · have c2' : vk (rgV S (dR w)) = 3 ∨ vk (rgV S (dR w)) = 5 ∨ vk (rgV S (dR w)) = 9 := by
        refine Classical.byContradiction fun q => c2 ⟨fun a => q (Or.inl a), fun a => q (Or.inr (Or.inl a)), fun a => q (Or.inr (Or.inr a))⟩
      have hm : mvs (rgV S (dR w)) := by
        unfold mvs
        rcases c2' with q | q | q
        · exact Or.inl q
        · exact Or.inr (Or.inl q)
        · exact Or.inr (Or.inr (Or.inr q))
      have s141 : RR (lkB tb513) (B513_73, [some (mR (some 80)), some (mL w), none, some (mI ((bytN w : Nat) : Int)), some (mI (32661 : Int)), some (mI (fI w)), some (mI (z : Int)), some (mI (y : Int))], [], σ1) = RR (lkB tb513) (B513_141, [some (mR (some 80)), some (mL w), none, some (mI ((bytN w : Nat) : Int)), some (mI (32661 : Int)), some (mI (fI w)), some (mI (z : Int)), some (mI (y : Int))], [], σ1) := by
        rcases c2' with q | q | q
        all_goals simp only [e513_73, e513_87, Option.getD_some, Option.bind_some, Option.toList_some, Option.toList_none, List.cons_append, List.nil_append, and_self, and_true, true_and, false_and, and_false, ite_self, not_true_eq_false, not_false_eq_true, reduceIte, Nat.reduceEqDiff, ab_I, ab_L, ab_R, ao_I, ao_L, ao_R, gL_sL, gI_sI, gR_sR, gI_sL, gI_sR, gL_sI, gL_sR, gR_sI, gR_sL, g0, T493 bX, nX, h11, b2_0', c1, g_118, Int.reduceLT, Int.reduceLE, k118, q, Int.reduceEq]
      have t3 := T503 (σ := σ1) (x := 32661) (y := fO w) (n := bytN w) (g := 3) (t := t) (E := E) bX (by rw [nX, h11]; exact hm) (by rw [nX, h11]; exact okX) (EO_sq h10 h4) (by rw [nX, h11]; exact canX.2.2.2.2.2) fo (by omega)
      simp only [nX, h11] at t3
      have s152 : RR (lkB tb513) (B513_141, [some (mR (some 80)), some (mL w), none, some (mI ((bytN w : Nat) : Int)), some (mI (32661 : Int)), some (mI (fI w)), some (mI (z : Int)), some (mI (y : Int))], [], σ1) = RR (lkB tb513) (B513_152, [some (mR (some 80)), some (mL w), none, some (mI ((bytN w : Nat) : Int)), some (mI (32661 : Int)), some (mI (fI w)), some (mI (z : Int)), some (mI (y : Int))], [mI (b2 (room E (rgV S (dR w)) (fO w) (bytN w)))], (if vk (rgV S (dR w)) = 3 then sI (sI σ1 80 103 (vw (rgV S (dR w)))) 80 102 (vo (rgV S (dR w)) + fO w + 128) else σ1)) := by
        simp only [e513_141, e513_148, Option.getD_some, Option.bind_some, Option.toList_some, Option.toList_none, List.cons_append, List.nil_append, and_self, and_true, true_and, false_and, and_false, ite_self, not_true_eq_false, not_false_eq_true, reduceIte, Nat.reduceEqDiff, ab_I, ab_L, ab_R, ao_I, ao_L, ao_R, gL_sL, gI_sI, gR_sR, gI_sL, gI_sR, gL_sI, gL_sR, gR_sI, gR_sL, T335, t3]
      rw [s141, s152]
      by_cases c5 : room E (rgV S (dR w)) (fO w) (bytN w)
      · rw [b2_yes c5]
        have leak : ∀ ρ : MS, sqc ρ σ1 → aV ρ y = (rgV S (sRr w)) → RR (lkB tb513) (B513_191, [some (mR (some 80)), some (mL w), none, some (mI ((bytN w : Nat) : Int)), some (mI (32661 : Int)), some (mI (fI w)), some (mI (z : Int)), some (mI (y : Int))], [], ρ) = RR (lkB tb513) (B513_227, [some (mR (some 80)), some (mL w), none, some (mI ((bytN w : Nat) : Int)), some (mI (32661 : Int)), some (mI (fI w)), some (mI (z : Int)), some (mI (y : Int))], [], if ¬ vk (rgV S (sRr w)) = 1 ∨ fI w = 241 ∧ ¬ vk (rgV S 0) = 1 then flt ρ 7 else ρ) := fun ρ hr hy => by
          have ky : gI ρ 118 y = vk (rgV S (sRr w)) := by rw [q118, hy]
          have kz := vz ρ hr
          by_cases a1 : vk (rgV S (sRr w)) = 1
          · by_cases a2 : fI w = 241
            · by_cases a3 : vk (rgV S 0) = 1
              · rw [if_neg (fun q => q.elim (fun r => r a1) (fun r => r.2 a3))]
                simp only [e513_191, e513_221, Option.getD_some, Option.bind_some, Option.toList_some, Option.toList_none, List.cons_append, List.nil_append, and_self, and_true, true_and, false_and, and_false, ite_self, not_true_eq_false, not_false_eq_true, reduceIte, Nat.reduceEqDiff, ab_I, ab_L, ab_R, ao_I, ao_L, ao_R, gL_sL, gI_sI, gR_sR, gI_sL, gI_sR, gL_sI, gL_sR, gR_sI, gR_sL, g_118, h13.1, h13.2, iz.1, iz.2, Int.toNat_natCast, ky, kz, a1, a2, a3]
              · rw [if_pos (Or.inr ⟨a2, a3⟩)]
                simp only [e513_191, e513_221, Option.getD_some, Option.bind_some, Option.toList_some, Option.toList_none, List.cons_append, List.nil_append, and_self, and_true, true_and, false_and, and_false, ite_self, not_true_eq_false, not_false_eq_true, reduceIte, Nat.reduceEqDiff, ab_I, ab_L, ab_R, ao_I, ao_L, ao_R, gL_sL, gI_sI, gR_sR, gI_sL, gI_sR, gL_sI, gL_sR, gR_sI, gR_sL, g_118, h13.1, h13.2, iz.1, iz.2, Int.toNat_natCast, ky, kz, a1, a2, a3, T473]
            · rw [if_neg (fun q => q.elim (fun r => r a1) (fun r => a2 r.1))]
              simp only [e513_191, e513_221, Option.getD_some, Option.bind_some, Option.toList_some, Option.toList_none, List.cons_append, List.nil_append, and_self, and_true, true_and, false_and, and_false, ite_self, not_true_eq_false, not_false_eq_true, reduceIte, Nat.reduceEqDiff, ab_I, ab_L, ab_R, ao_I, ao_L, ao_R, gL_sL, gI_sI, gR_sR, gI_sL, gI_sR, gL_sI, gL_sR, gR_sI, gR_sL, g_118, h13.1, h13.2, iz.1, iz.2, Int.toNat_natCast, ky, kz, a1, a2]
          · rw [if_pos (Or.inl a1)]
            simp only [e513_191, e513_221, Option.getD_some, Option.bind_some, Option.toList_some, Option.toList_none, List.cons_append, List.nil_append, and_self, and_true, true_and, false_and, and_false, ite_self, not_true_eq_false, not_false_eq_true, reduceIte, Nat.reduceEqDiff, ab_I, ab_L, ab_R, ao_I, ao_L, ao_R, gL_sL, gI_sI, gR_sR, gI_sL, gI_sR, gL_sI, gL_sR, gR_sI, gR_sL, g_118, h13.1, h13.2, Int.toNat_natCast, ky, a1, T473]
        by_cases k3 : vk (rgV S (dR w)) = 3
        · rw [if_pos k3]
          have hf := okV_f h2 h7 k3
          have hr : -128 ≤ vo (rgV S (dR w)) + fO w ∧ vo (rgV S (dR w)) + fO w ≤ -(bytN w : Int) := by
            have := c5
            unfold room at this
            rw [if_pos k3] at this
            exact this
          have eb : vo (rgV S (dR w)) + fO w + 128 = (((vo (rgV S (dR w)) + fO w + 128).toNat : Nat) : Int) := by omega
          have bb : (vo (rgV S (dR w)) + fO w + 128).toNat + bytN w ≤ 128 := by omega
          generalize eB : (vo (rgV S (dR w)) + fO w + 128).toNat = b at eb bb
          generalize hρ : sI (sI σ1 80 103 (vw (rgV S (dR w)))) 80 102 (vo (rgV S (dR w)) + fO w + 128) = ρ
          have r1 : sqc ρ σ1 := by rw [← hρ]; exact sqc_pb
          have r2 : gI ρ 80 102 = (b : Int) := by rw [← hρ, gI_sI, if_pos ⟨rfl, rfl⟩, eb]
          have r3 : gI ρ 80 103 = vw (rgV S (dR w)) := by rw [← hρ, gI_sI, if_neg (by omega), gI_sI, if_pos ⟨rfl, rfl⟩]
          have r4 : aV ρ 32661 = (rgV S (dR w)) := by rw [← hρ, aV_sI (by omega), aV_sI (by omega), h11]
          have r5 : J0 ρ S := JSt_sq (sqc_t r1 h10) (by omega) hF.2 h1
          have r6 : gI ρ 118 32661 = 3 := by rw [q118, r4]; exact k3
          have hfr : gI ρ 80 103 = (((vw (rgV S (dR w))).toNat : Nat) : Int) := by omega
          have t5 : MM 505 [mR (some 80), mI ((bytN w : Nat) : Int)] ρ = some (some (mI (b2 (areS S (vw (rgV S (dR w))).toNat b (bytN w) = true))), ρ) := by
            have := T505 (σ := ρ) (n := bytN w) r5 hF.2 h3 (by omega) (by omega) (by omega)
            rwa [r3, r2, Int.toNat_natCast] at this
          by_cases V : areS S (vw (rgV S (dR w))).toNat b (bytN w) = true
          · have s191 : RR (lkB tb513) (B513_152, [some (mR (some 80)), some (mL w), none, some (mI ((bytN w : Nat) : Int)), some (mI (32661 : Int)), some (mI (fI w)), some (mI (z : Int)), some (mI (y : Int))], [mI 1], ρ) = RR (lkB tb513) (B513_191, [some (mR (some 80)), some (mL w), none, some (mI ((bytN w : Nat) : Int)), some (mI (32661 : Int)), some (mI (fI w)), some (mI (z : Int)), some (mI (y : Int))], [], ρ) := by
              simp only [e513_152, e513_179, Option.getD_some, Option.bind_some, Option.toList_some, Option.toList_none, List.cons_append, List.nil_append, and_self, and_true, true_and, false_and, and_false, ite_self, not_true_eq_false, not_false_eq_true, reduceIte, Nat.reduceEqDiff, ab_I, ab_L, ab_R, ao_I, ao_L, ao_R, gL_sL, gI_sI, gR_sR, gI_sL, gI_sR, gL_sI, gL_sR, gR_sI, gR_sL, oneI, g_118, Int.reduceLT, Int.reduceLE, nX, r6, t5, b2_yes V]
            rw [s191, leak ρ r1 (by rw [← hρ, aV_sI (by omega), aV_sI (by omega), h12])]
            have V' : ¬ (vk (rgV S (dR w)) = 3 ∧ areS S (vw (rgV S (dR w))).toNat b (bytN w) = false) := fun q => by rw [V] at q; exact absurd q.2 (by decide)
            by_cases L : ¬ vk (rgV S (sRr w)) = 1 ∨ fI w = 241 ∧ ¬ vk (rgV S 0) = 1
            · have un : swpV E S w = (7, S) := by
                unfold swpV
                rw [if_neg n3, if_neg c1, if_neg c2, if_neg (not_not_intro c5), eB, if_neg V', if_pos L]
              rw [if_pos L]
              exact bad 7 ρ (by decide) r1 un
            · have un : swpV E S w = (0, if fI w = 241 then wV (putB S (vw (rgV S (dR w))).toNat b (bytN w) (bytN w)) 0 (numV (wideN (bytN w))) else if fI w % 2 = 1 then wV (putB S (vw (rgV S (dR w))).toNat b (bytN w) (bytN w)) (sRr w) (numV (wideN (bytN w))) else putB S (vw (rgV S (dR w))).toNat b (bytN w) (bytN w)) := by
                unfold swpV
                rw [if_neg n3, if_neg c1, if_neg c2, if_neg (not_not_intro c5), eB, if_neg V', if_neg L]
                rw [if_pos k3, if_pos k3, if_pos k3]
              rw [if_neg L]
              have t7 := L507 (σ := ρ) (n := bytN w) (b := b) (f := (vw (rgV S (dR w))).toNat) (Q := fun m => putB S (vw (rgV S (dR w))).toNat b m m) hF.2 (by show (vw (rgV S (dR w))).toNat < sF S; omega) r2 hfr bb (fun m hm => one_a h3 (by omega)) (fun m _ => can_put h3) (by show J0 ρ (putB S (vw (rgV S (dR w))).toNat b 0 0); rw [putB_0]; exact r5)
              have g0r : gI ρ 80 90 = 0 := (sqc_I r1 (by omega) (by omega)).trans g0
              simp only [e513_227, Option.getD_some, Option.bind_some, Option.toList_some, Option.toList_none, List.cons_append, List.nil_append, and_self, and_true, true_and, false_and, and_false, ite_self, not_true_eq_false, not_false_eq_true, reduceIte, Nat.reduceEqDiff, ab_I, ab_L, ab_R, ao_I, ao_L, ao_R, gL_sL, gI_sI, gR_sR, gI_sL, gI_sR, gL_sI, gL_sR, gR_sI, gR_sL, g0r, g_118, Int.reduceLT, Int.reduceLE, nX, r6]
              refine okc_b t7 fun τ q => ?_
              simp only [Option.toList_none, List.nil_append]
              obtain ⟨q1, q2, q3, q4⟩ := q
              have s1 := sqc_t r1 h10
              have jqt : jq τ ρ := ⟨fun k s z => q2 k s (fun y => z (Or.inl ⟨y.1, Or.inl y.2⟩)), fun k s z => q3 k s (fun y => z ⟨y.1, Or.inl y.2⟩), q4⟩
              refine L513e h q1 rfl (jq_t jqt (jq_sq s1)) ⟨?_, ?_, ?_, ?_⟩ un
              · rw [q2 _ _ (by omega), sqc_I s1 (by omega) (by omega), h5]
              · rw [q2 _ _ (by omega), sqc_I s1 (by omega) (by omega)]
              · rw [q2 _ _ (by omega), sqc_I s1 (by omega) (by omega)]
              · rw [q2 _ _ (by omega), sqc_I s1 (by omega) (by omega), h6]
          · have V' : areS S (vw (rgV S (dR w))).toNat b (bytN w) = false := by simpa using V
            have un : swpV E S w = (6, S) := by
              unfold swpV
              rw [if_neg n3, if_neg c1, if_neg c2, if_neg (not_not_intro c5), eB, if_pos ⟨k3, V'⟩]
            have s : RR (lkB tb513) (B513_152, [some (mR (some 80)), some (mL w), none, some (mI ((bytN w : Nat) : Int)), some (mI (32661 : Int)), some (mI (fI w)), some (mI (z : Int)), some (mI (y : Int))], [mI 1], ρ) = RR (lkB tb513) (B513_227, [some (mR (some 80)), some (mL w), none, some (mI ((bytN w : Nat) : Int)), some (mI (32661 : Int)), some (mI (fI w)), some (mI (z : Int)), some (mI (y : Int))], [], flt ρ 6) := by
              simp only [e513_152, e513_179, e513_188, Option.getD_some, Option.bind_some, Option.toList_some, Option.toList_none, List.cons_append, List.nil_append, and_self, and_true, true_and, false_and, and_false, ite_self, not_true_eq_false, not_false_eq_true, reduceIte, Nat.reduceEqDiff, ab_I, ab_L, ab_R, ao_I, ao_L, ao_R, gL_sL, gI_sI, gR_sR, gI_sL, gI_sR, gL_sI, gL_sR, gR_sI, gR_sL, oneI, g_118, Int.reduceLT, Int.reduceLE, nX, r6, t5, b2_no V, T473]
            rw [s]
            exact bad 6 ρ (by decide) r1 un
        · rw [if_neg k3]
          have s191 : RR (lkB tb513) (B513_152, [some (mR (some 80)), some (mL w), none, some (mI ((bytN w : Nat) : Int)), some (mI (32661 : Int)), some (mI (fI w)), some (mI (z : Int)), some (mI (y : Int))], [mI 1], σ1) = RR (lkB tb513) (B513_191, [some (mR (some 80)), some (mL w), none, some (mI ((bytN w : Nat) : Int)), some (mI (32661 : Int)), some (mI (fI w)), some (mI (z : Int)), some (mI (y : Int))], [], σ1) := by
            simp only [e513_152, Option.getD_some, Option.bind_some, Option.toList_some, Option.toList_none, List.cons_append, List.nil_append, and_self, and_true, true_and, false_and, and_false, ite_self, not_true_eq_false, not_false_eq_true, reduceIte, Nat.reduceEqDiff, ab_I, ab_L, ab_R, ao_I, ao_L, ao_R, gL_sL, gI_sI, gR_sR, gI_sL, gI_sR, gL_sI, gL_sR, gR_sI, gR_sL, oneI, g_118, Int.reduceLT, Int.reduceLE, nX, k118, k3]
          rw [s191, leak σ1 (sqc_r _) h12]
          by_cases L : ¬ vk (rgV S (sRr w)) = 1 ∨ fI w = 241 ∧ ¬ vk (rgV S 0) = 1
          · have un : swpV E S w = (7, S) := by
              unfold swpV
              rw [if_neg n3, if_neg c1, if_neg c2, if_neg (not_not_intro c5), if_neg (fun q => k3 q.1), if_pos L]
            rw [if_pos L]
            exact bad 7 σ1 (by decide) (sqc_r _) un
          · have un : swpV E S w = (0, if fI w = 241 then wV S 0 (numV (wideN (bytN w))) else if fI w % 2 = 1 then wV S (sRr w) (numV (wideN (bytN w))) else S) := by
              unfold swpV
              rw [if_neg n3, if_neg c1, if_neg c2, if_neg (not_not_intro c5), if_neg (fun q => k3 q.1), if_neg L]
              rw [if_neg k3, if_neg k3, if_neg k3]
            rw [if_neg L]
            simp only [e513_227, Option.getD_some, Option.bind_some, Option.toList_some, Option.toList_none, List.cons_append, List.nil_append, and_self, and_true, true_and, false_and, and_false, ite_self, not_true_eq_false, not_false_eq_true, reduceIte, Nat.reduceEqDiff, ab_I, ab_L, ab_R, ao_I, ao_L, ao_R, gL_sL, gI_sI, gR_sR, gI_sL, gI_sR, gL_sI, gL_sR, gR_sI, gR_sL, g0, g_118, Int.reduceLT, Int.reduceLE, nX, k118, k3]
            refine L513e h J1 rfl (jq_sq h10) ⟨g0, ?_, ?_, ?_⟩ un
            · exact sqc_I h10 (by omega) (by omega)
            · exact sqc_I h10 (by omega) (by omega)
            · rw [sqc_I h10 (by omega) (by omega), h6]
      · have un : swpV E S w = (5, S) := by
          unfold swpV
          rw [if_neg n3, if_neg c1, if_neg c2, if_pos c5]
        rw [b2_no c5]
        generalize hρ : (if vk (rgV S (dR w)) = 3 then sI (sI σ1 80 103 (vw (rgV S (dR w)))) 80 102 (vo (rgV S (dR w)) + fO w + 128) else σ1) = ρ
        have r1 : sqc ρ σ1 := by
          rw [← hρ]
          split
          · exact sqc_pb
          · exact sqc_r _
        have s : RR (lkB tb513) (B513_152, [some (mR (some 80)), some (mL w), none, some (mI ((bytN w : Nat) : Int)), some (mI (32661 : Int)), some (mI (fI w)), some (mI (z : Int)), some (mI (y : Int))], [mI 0], ρ) = RR (lkB tb513) (B513_227, [some (mR (some 80)), some (mL w), none, some (mI ((bytN w : Nat) : Int)), some (mI (32661 : Int)), some (mI (fI w)), some (mI (z : Int)), some (mI (y : Int))], [], flt ρ 5) := by
          simp only [e513_152, e513_160, Option.getD_some, Option.bind_some, Option.toList_some, Option.toList_none, List.cons_append, List.nil_append, and_self, and_true, true_and, false_and, and_false, ite_self, not_true_eq_false, not_false_eq_true, reduceIte, Nat.reduceEqDiff, ab_I, ab_L, ab_R, ao_I, ao_L, ao_R, gL_sL, gI_sI, gR_sR, gI_sL, gI_sR, gL_sI, gL_sR, gR_sI, gR_sL, T473]
        rw [s]
        exact bad 5 ρ (by decide) r1 un
theorem T513 (hJ : J0 σ S) (ho : okS E t S) (hc : canS S) (hE : EO σ E) (hw : okMem w) (hl : fL w = 3 ∧ fM w = 192) (h0 : gI σ 80 90 = 0) (ht : gI σ 80 85 = t) : okc (MM 513 [mR (some 80), mL w, mI ((bytN w : Nat) : Int)] σ) none (fun τ => jpo σ τ (swpV E S w).1 (swpV E S w).2 (gI σ 80 88) (gI σ 80 89) t) := by
  have hF := ho.1
  have f := fld_rng w
  have f1 : 0 ≤ fD w := f.2.1.1
  have f2 : 0 ≤ fS w := f.2.2.1.1
  have hw2 : fD w ≤ 10 ∧ fS w ≤ 10 ∧ (fI w % 2 = 1 → ¬ fI w = 241 → fS w ≤ 9) := by
    have := hw
    unfold okMem at this
    rw [if_neg (by omega), if_neg (by omega), if_neg (by omega)] at this
    obtain ⟨⟨-, a⟩, b⟩ := this
    refine ⟨a, ?_, fun q1 q2 => ?_⟩
    · rcases b with b | b <;> omega
    · rcases b with b | b
      · exfalso; omega
      · exact b.2
  obtain ⟨w1, w2, w3⟩ := hw2
  have d10 : dR w ≤ 10 := by unfold dR; omega
  have s10 : sRr w ≤ 10 := by unfold sRr; omega
  have t1 := T492 (σ := σ) (r := fD w) ⟨f1, w1⟩ (by rw [hJ.1]; omega)
  have ip := plc_b hJ.1 hF (r := fD w) ⟨f1, w1⟩
  have vx := at_v hJ hF (r := fD w) ⟨f1, w1⟩
  generalize plc (gI σ 123 0) (fD w) = px at t1 ip vx
  generalize hσ1 : mk10 σ (fD w) = σ1 at t1 vx
  have r1 : sqc σ1 σ := by rw [← hσ1]; exact mk_sq
  have okX := okV_r ho d10
  have bK : inB 32661 := by decide
  have tk := T430 (σ := flt σ1 (wntS (rgV S (dR w)))) ip bK (by rw [Int.toNat_natCast, aV_flt, vx]; have := okX.1; omega)
  rw [Int.toNat_natCast, aV_flt, vx, wrV_flt] at tk
  generalize hσ2 : wrV σ1 (32661 : Int).toNat (rgV S (dR w)) = σ2 at tk
  have r2 : sqc σ2 σ := by rw [← hσ2]; exact sqc_t (sqc_w (by decide)) r1
  have v2 : aV σ2 32661 = (rgV S (dR w)) := by rw [← hσ2]; exact aV_same
  have J2 : J0 σ2 S := JSt_sq r2 (by omega) hF.2 hJ
  have g0 : gI σ2 80 90 = 0 := (sqc_I r2 (by omega) (by omega)).trans h0
  generalize hz : 26 * (sF S - 1) = z
  have iz : inB (z : Int) := ⟨by omega, by omega⟩
  have vz : aV σ2 z = (rgV S 0) := by
    rw [J0_v J2 (by omega), ← hz]
    rfl
  have tz := T492 (σ := flt σ2 (wntS (rgV S (dR w)))) (r := 0) (by omega) (by rw [fl_o (by omega), J2.1]; omega)
  rw [fl_o (by omega), plc_9 J2.1 hF.1 (by omega) (by omega), mkr_9 (by omega), show 26 * (sF S - 1) + (0 : Int).toNat = z by rw [← hz]; rfl] at tz
  have ts := T492 (σ := flt σ2 (fst (wntS (rgV S (dR w))) (if fI w = 241 then wntS (rgV S 0) else 0))) (r := fS w) ⟨f2, w2⟩ (by rw [fl_o (by omega), J2.1]; omega)
  rw [fl_o (by omega), mk_flt] at ts
  have iy := plc_b J2.1 hF (r := fS w) ⟨f2, w2⟩
  have vy := at_v J2 hF (r := fS w) ⟨f2, w2⟩
  have n61 : ¬ (plc (gI σ2 123 0) (fS w)) = 32661 := by
    by_cases e : fS w = 10
    · rw [e, plc_10]
      decide
    · rw [plc_9 J2.1 hF.1 f2 (by omega)]
      omega
  have e9 : fS w ≤ 9 → plc (gI σ2 123 0) (fS w) = z + sRr w := fun q => by rw [plc_9 J2.1 hF.1 f2 q, hz]
  generalize plc (gI σ2 123 0) (fS w) = y at ts iy vy n61 e9
  have v3 : aV (mk10 σ2 (fS w)) 32661 = (rgV S (dR w)) := by rw [mk_V, if_neg (by omega), v2]
  generalize hσ3 : mk10 σ2 (fS w) = σ3 at ts vy v3
  have r3 : sqc σ3 σ := by rw [← hσ3]; exact sqc_t mk_sq r2
  have s73 : MM 513 [mR (some 80), mL w, mI ((bytN w : Nat) : Int)] σ = RR (lkB tb513) (B513_73, [some (mR (some 80)), some (mL w), none, some (mI ((bytN w : Nat) : Int)), some (mI (32661 : Int)), some (mI (fI w)), some (mI (z : Int)), some (mI (y : Int))], [], flt σ3 (fst (fst (wntS (rgV S (dR w))) (if fI w = 241 then wntS (rgV S 0) else 0)) (wntS (rgV S (sRr w))))) := by
    have s57 : MM 513 [mR (some 80), mL w, mI ((bytN w : Nat) : Int)] σ = RR (lkB tb513) (B513_57, [some (mR (some 80)), some (mL w), none, some (mI ((bytN w : Nat) : Int)), some (mI (32661 : Int)), some (mI (fI w)), some (mI (z : Int)), none], [], flt σ2 (fst (wntS (rgV S (dR w))) (if fI w = 241 then wntS (rgV S 0) else 0))) := by
      by_cases c : fI w = 241
      · rw [if_pos c]
        simp only [M513, e513_0, e513_5, e513_8, e513_14, e513_22, e513_31, e513_41, Option.getD_some, Option.bind_some, Option.toList_some, Option.toList_none, List.cons_append, List.nil_append, and_self, and_true, true_and, false_and, and_false, ite_self, not_true_eq_false, not_false_eq_true, reduceIte, Nat.reduceEqDiff, ab_I, ab_L, ab_R, ao_I, ao_L, ao_R, gL_sL, gI_sI, gR_sR, gI_sL, gI_sR, gL_sI, gL_sR, gR_sI, gR_sL, T333, T336, t1, T494 ip, Int.toNat_natCast, vx, tk, tz, c, T494 iz, aV_flt, vz, flt_flt]
      · rw [if_neg c]
        have e0 : fst (wntS (rgV S (dR w))) 0 = wntS (rgV S (dR w)) := by
          unfold fst
          split
          · rename_i q; exact q.symm
          · rfl
        rw [e0]
        simp only [M513, e513_0, e513_5, e513_8, e513_14, e513_22, e513_31, e513_41, Option.getD_some, Option.bind_some, Option.toList_some, Option.toList_none, List.cons_append, List.nil_append, and_self, and_true, true_and, false_and, and_false, ite_self, not_true_eq_false, not_false_eq_true, reduceIte, Nat.reduceEqDiff, ab_I, ab_L, ab_R, ao_I, ao_L, ao_R, gL_sL, gI_sI, gR_sR, gI_sL, gI_sR, gL_sI, gL_sR, gR_sI, gR_sL, T333, T336, t1, T494 ip, Int.toNat_natCast, vx, tk, tz, c]
    rw [s57]
    simp only [e513_57, e513_62, e513_65, Option.getD_some, Option.bind_some, Option.toList_some, Option.toList_none, List.cons_append, List.nil_append, and_self, and_true, true_and, false_and, and_false, ite_self, not_true_eq_false, not_false_eq_true, reduceIte, Nat.reduceEqDiff, ab_I, ab_L, ab_R, ao_I, ao_L, ao_R, gL_sL, gI_sI, gR_sR, gI_sL, gI_sR, gL_sI, gL_sR, gR_sI, gR_sL, T334, ts, T494 iy, Int.toNat_natCast, aV_flt, vy, flt_flt]
  rw [s73]
  have H : wH S E w t σ σ3 y z := ⟨⟨hJ, ho, hc, hE⟩, ⟨h0, ht⟩, ⟨d10, s10, hz.symm, fun q1 q2 => ?_⟩, ⟨r3, v3, vy, iy⟩⟩
  · have g3 : gI σ3 80 90 = 0 := (sqc_I r3 (by omega) (by omega)).trans h0
    by_cases q : vk (rgV S (dR w)) = 0 ∨ fI w = 241 ∧ vk (rgV S 0) = 0 ∨ vk (rgV S (sRr w)) = 0
    · have un : swpV E S w = (3, S) := by
        unfold swpV
        rw [if_pos q]
      have e3 : fst (fst (wntS (rgV S (dR w))) (if fI w = 241 then wntS (rgV S 0) else 0)) (wntS (rgV S (sRr w))) = 3 := by
        unfold wntS fst
        by_cases a : vk (rgV S (dR w)) = 0
        · simp [a]
        · by_cases b : fI w = 241 ∧ vk (rgV S 0) = 0
          · simp [a, b]
          · have c : vk (rgV S (sRr w)) = 0 := (q.resolve_left a).resolve_left b
            by_cases d : fI w = 241
            · have : ¬ vk (rgV S 0) = 0 := fun r => b ⟨d, r⟩
              simp [a, c, d, this]
            · simp [a, c, d]
      have g : ¬ gI (flt σ3 3) 80 90 = 0 := by rw [fl_g, g3, fst0]; decide
      rw [e3, un]
      simp only [e513_73, Option.getD_some, Option.bind_some, Option.toList_some, Option.toList_none, List.cons_append, List.nil_append, and_self, and_true, true_and, false_and, and_false, ite_self, not_true_eq_false, not_false_eq_true, reduceIte, Nat.reduceEqDiff, ab_I, ab_L, ab_R, ao_I, ao_L, ao_R, gL_sL, gI_sI, gR_sR, gI_sL, gI_sR, gL_sI, gL_sR, gR_sI, gR_sL, g]
      exact okc_s (wH_no H (by decide) (sqc_r _) (sqc_r _))
    · have a : ¬ vk (rgV S (dR w)) = 0 := fun r => q (Or.inl r)
      have b : fI w = 241 → ¬ vk (rgV S 0) = 0 := fun r1 r2 => q (Or.inr (Or.inl ⟨r1, r2⟩))
      have c : ¬ vk (rgV S (sRr w)) = 0 := fun r => q (Or.inr (Or.inr r))
      have e0 : fst (fst (wntS (rgV S (dR w))) (if fI w = 241 then wntS (rgV S 0) else 0)) (wntS (rgV S (sRr w))) = 0 := by
        have ex : wntS (rgV S (dR w)) = 0 := if_neg a
        have ey : wntS (rgV S (sRr w)) = 0 := if_neg c
        rw [ex, ey, fst0]
        split
        · rename_i r
          rw [show wntS (rgV S 0) = 0 from if_neg (b r)]
          rfl
        · rfl
      rw [e0, flt_0]
      exact L513 H a c b
  · have := w3 q1 q2
    exact ⟨by unfold sRr; omega, by rw [e9 this, ← hz]⟩
end SWP
/-! memory, as one -/
theorem T509 {w : B64} {S : ST} {E : EV} {t : Int} {σ : MS} (hJ : J0 σ S) (ho : okS E t S) (hc : canS S) (hE : EO σ E) (hw : okMem w) (hl : fL w = 1 ∨ fL w = 2 ∨ fL w = 3) (h0 : gI σ 80 90 = 0) (ht : gI σ 80 85 = t) : okc (MM 509 [mR (some 80), mL w, mI (fOp w)] σ) none (fun τ =>
    if fL w = 1 then jpo σ τ (lodV E S w).1 (wV S (dR w) (lodV E S w).2) (gI σ 80 88) (gI σ 80 89) t
    else if fL w = 3 ∧ fM w = 192 then jpo σ τ (swpV E S w).1 (swpV E S w).2 (gI σ 80 88) (gI σ 80 89) t
    else jpo σ τ (stoV E S w).1 (stoV E S w).2 (gI σ 80 88) (gI σ 80 89) t) := by
  by_cases l1 : fL w = 1
  · rw [show (fun τ => if fL w = 1 then jpo σ τ (lodV E S w).1 (wV S (dR w) (lodV E S w).2) (gI σ 80 88) (gI σ 80 89) t else if fL w = 3 ∧ fM w = 192 then jpo σ τ (swpV E S w).1 (swpV E S w).2 (gI σ 80 88) (gI σ 80 89) t else jpo σ τ (stoV E S w).1 (stoV E S w).2 (gI σ 80 88) (gI σ 80 89) t) = fun τ => jpo σ τ (lodV E S w).1 (wV S (dR w) (lodV E S w).2) (gI σ 80 88) (gI σ 80 89) t from funext fun τ => if_pos l1]
    simp only [M509, e509_0, e509_4, Option.getD_some, Option.bind_some, Option.toList_some, Option.toList_none, List.cons_append, List.nil_append, and_self, and_true, true_and, false_and, and_false, ite_self, not_true_eq_false, not_false_eq_true, reduceIte, Nat.reduceEqDiff, ab_I, ab_L, ab_R, ao_I, ao_L, ao_R, gL_sL, gI_sI, gR_sR, gI_sL, gI_sR, gL_sI, gL_sR, gR_sI, gR_sL, T508, m7, l1]
    refine okc_b (T511 hJ ho hc hE hw l1 h0 ht) fun τ q => ?_
    simp only [Option.toList_none, List.nil_append, e509_22, e509_54]
    exact okc_s q
  · by_cases l3 : fL w = 3 ∧ fM w = 192
    · rw [show (fun τ => if fL w = 1 then jpo σ τ (lodV E S w).1 (wV S (dR w) (lodV E S w).2) (gI σ 80 88) (gI σ 80 89) t else if fL w = 3 ∧ fM w = 192 then jpo σ τ (swpV E S w).1 (swpV E S w).2 (gI σ 80 88) (gI σ 80 89) t else jpo σ τ (stoV E S w).1 (stoV E S w).2 (gI σ 80 88) (gI σ 80 89) t) = fun τ => jpo σ τ (swpV E S w).1 (swpV E S w).2 (gI σ 80 88) (gI σ 80 89) t from funext fun τ => (if_neg l1).trans (if_pos l3)]
      simp only [M509, e509_0, e509_4, Option.getD_some, Option.bind_some, Option.toList_some, Option.toList_none, List.cons_append, List.nil_append, and_self, and_true, true_and, false_and, and_false, ite_self, not_true_eq_false, not_false_eq_true, reduceIte, Nat.reduceEqDiff, ab_I, ab_L, ab_R, ao_I, ao_L, ao_R, gL_sL, gI_sI, gR_sR, gI_sL, gI_sR, gL_sI, gL_sR, gR_sI, gR_sL, T508, m7, m224, l3.2, l1]
      refine okc_b (T513 hJ ho hc hE hw l3 h0 ht) fun τ q => ?_
      simp only [Option.toList_none, List.nil_append, e509_43, e509_54]
      exact okc_s q
    · have hl2 : fL w = 2 ∨ fL w = 3 ∧ fM w = 96 := by
        rcases hl with q | q | q
        · exact absurd q l1
        · exact Or.inl q
        · right
          refine ⟨q, ?_⟩
          have := hw
          unfold okMem at this
          rw [if_neg l1, if_neg (by omega)] at this
          by_cases z : fM w = 96
          · exact z
          · rw [if_neg z] at this
            exfalso
            apply l3
            have e : fM w = fOp w / 32 * 32 := rfl
            exact ⟨q, by have := this.1.1; omega⟩
      have n192 : ¬ fM w = 192 := by
        rcases hl2 with q | q
        · have := hw
          unfold okMem at this
          rw [if_neg l1, if_pos q] at this
          have := this.1
          omega
        · omega
      rw [show (fun τ => if fL w = 1 then jpo σ τ (lodV E S w).1 (wV S (dR w) (lodV E S w).2) (gI σ 80 88) (gI σ 80 89) t else if fL w = 3 ∧ fM w = 192 then jpo σ τ (swpV E S w).1 (swpV E S w).2 (gI σ 80 88) (gI σ 80 89) t else jpo σ τ (stoV E S w).1 (stoV E S w).2 (gI σ 80 88) (gI σ 80 89) t) = fun τ => jpo σ τ (stoV E S w).1 (stoV E S w).2 (gI σ 80 88) (gI σ 80 89) t from funext fun τ => (if_neg l1).trans (if_neg l3)]
      simp only [M509, e509_0, e509_4, Option.getD_some, Option.bind_some, Option.toList_some, Option.toList_none, List.cons_append, List.nil_append, and_self, and_true, true_and, false_and, and_false, ite_self, not_true_eq_false, not_false_eq_true, reduceIte, Nat.reduceEqDiff, ab_I, ab_L, ab_R, ao_I, ao_L, ao_R, gL_sL, gI_sI, gR_sR, gI_sL, gI_sR, gL_sI, gL_sR, gR_sI, gR_sL, T508, m7, m224, n192, l1]
      refine okc_b (T512 hJ ho hc hE hw hl2 h0 ht) fun τ q => ?_
      simp only [Option.toList_none, List.nil_append, e509_54]
      exact okc_s q
-- FILE 42.all
/-! ===== the reference's judge: all VALUES of a state ===== -/
def apS (σ : MS) (g : VL → VL) : Nat → MS
  | 0 => σ
  | n + 1 => wrV (apS σ g n) n (g (aV (apS σ g n) n))
section AP
variable {σ : MS} {g : VL → VL} {n i k s : Nat} {S : ST}
theorem ap_V : ∀ n : Nat, aV (apS σ g n) i = if i < n then g (aV σ i) else aV σ i := by
  intro n
  induction n with
  | zero => rw [if_neg (by omega)]; rfl
  | succ n ih =>
    show aV (wrV (apS σ g n) n (g (aV (apS σ g n) n))) i = _
    rw [aV_wrV]
    by_cases e : i = n
    · subst e
      rw [if_pos rfl, if_pos (by omega), ih, if_neg (by omega)]
    · rw [if_neg e, ih]
      by_cases l : i < n
      · rw [if_pos l, if_pos (by omega)]
      · rw [if_neg l, if_neg (by omega)]
theorem ap_I (h : ¬ ((118 ≤ k ∧ k ≤ 122) ∧ s < n)) : gI (apS σ g n) k s = gI σ k s := by
  induction n with
  | zero => rfl
  | succ n ih =>
    show gI (wrV (apS σ g n) n (g (aV (apS σ g n) n))) k s = _
    by_cases e : s = n
    · rw [gI_wrV_o (by omega)]
      exact ih (by omega)
    · rw [gI_wrV_s e]
      exact ih (by omega)
theorem ap_L (h : ¬ ((112 ≤ k ∧ k ≤ 117) ∧ s < n)) : gL (apS σ g n) k s = gL σ k s := by
  induction n with
  | zero => rfl
  | succ n ih =>
    show gL (wrV (apS σ g n) n (g (aV (apS σ g n) n))) k s = _
    by_cases e : s = n
    · rw [gL_wrV_o (by omega)]
      exact ih (by omega)
    · rw [gL_wrV_s e]
      exact ih (by omega)
theorem ap_r : ∀ n : Nat, (apS σ g n).2.2 = σ.2.2
  | 0 => rfl
  | n + 1 => ap_r (σ := σ) (g := g) n
theorem ap_jq (h : n ≤ 104) : jq (apS σ g n) σ := ⟨fun k s p => ap_I (by omega), fun k s p => ap_L (by omega), ap_r n⟩
theorem ap_J0 (hF : sF S ≤ 4) (j : J0 σ S) : J0 (apS σ g (26 * sF S)) (allV S g) := by
  obtain ⟨j1, j2, j3, j4, j5⟩ := j
  refine ⟨(ap_I (by omega)).trans j1, fun k hk => ?_, fun f f1 f2 => (ap_I (by omega)).trans (j3 f f1 f2), (ap_I (by omega)).trans j4, fun m hm => (ap_I (by omega)).trans (j5 m hm)⟩
  have hk : k < 26 * sF S := hk
  rw [show 104 * 0 + k = k by omega, ap_V, if_pos hk]
  have := j2 k hk
  rw [show 104 * 0 + k = k by omega] at this
  rw [this]
  show _ = if k < 26 * sF S then g (sV S k) else sV S k
  rw [if_pos hk]
theorem ap_s {m N : Nat} (h : m < N) : apS σ g (N - m) = wrV (apS σ g (N - (m + 1))) (N - (m + 1)) (g (aV (apS σ g (N - (m + 1))) (N - (m + 1)))) := by
  rw [show N - m = (N - (m + 1)) + 1 by omega]
  rfl
end AP
section LP
variable {σ : MS} {t n : Int} {F : Nat}
theorem T522 (h : gI σ 123 0 = (F : Int)) (hF : F ≤ 4) : MM 522 [mR (some 80), mI t, mI n] σ = some (none, apS σ (rchV t n) (26 * F)) := by
  have key : ∀ m : Nat, m ≤ 26 * F → RR (lkB tb522) (B522_2, [some (mR (some 80)), some (mI t), some (mI n), some (mI ((26 * F - m : Nat) : Int))], [], apS σ (rchV t n) (26 * F - m)) = some (none, apS σ (rchV t n) (26 * F)) := by
    intro m
    induction m with
    | zero =>
      intro _
      have g : gI (apS σ (rchV t n) (26 * F - 0)) 123 0 = (F : Int) := (ap_I (by omega)).trans h
      rw [e522_2]
      simp only [g_123]
      rw [if_pos ⟨by omega, by omega⟩, show (0 : Int).toNat = 0 from rfl, g, w32_i (by omega) (by omega), if_pos (by omega)]
      rfl
    | succ m ih =>
      intro hm
      have ih := ih (by omega)
      have e3 : w32 (((26 * F - (m + 1) : Nat) : Int) + 1) = ((26 * F - m : Nat) : Int) := by
        rw [w32_i (by omega) (by omega)]
        omega
      rw [ap_s (by omega)] at ih
      have g : gI (apS σ (rchV t n) (26 * F - (m + 1))) 123 0 = (F : Int) := (ap_I (by omega)).trans h
      have hi : inB ((26 * F - (m + 1) : Nat) : Int) := ⟨by omega, by omega⟩
      generalize ek : 26 * F - (m + 1) = k at *
      generalize eρ : apS σ (rchV t n) k = ρ at *
      have i1 := hi.1
      have i2 := hi.2
      have nl : ¬ ((26 * F : Nat) : Int) ≤ (k : Int) := by omega
      have e26 : w32 (26 * (F : Int)) = ((26 * F : Nat) : Int) := by rw [w32_i (by omega) (by omega)]; omega
      by_cases c : vk (aV ρ k) = 7 ∧ vt (aV ρ k) = t ∧ vr (aV ρ k) < n
      · have e : rchV t n (aV ρ k) = vR (aV ρ k) n := if_pos c
        rw [e] at ih
        obtain ⟨c1, c2, c3⟩ := c
        have c1' : gI ρ 118 k = 7 := c1
        have c2' : gI ρ 121 k = t := c2
        have c3' : ¬ n ≤ gI ρ 122 k := by have : gI ρ 122 k = vr (aV ρ k) := rfl; omega
        simp only [e522_2, e522_53, Option.getD_some, Option.bind_some, Option.toList_some, Option.toList_none, List.cons_append, List.nil_append, and_self, and_true, true_and, false_and, and_false, ite_self, not_true_eq_false, not_false_eq_true, reduceIte, Nat.reduceEqDiff, ab_I, ab_L, ab_R, ao_I, ao_L, ao_R, gL_sL, gI_sI, gR_sR, gI_sL, gI_sR, gL_sI, gL_sR, gR_sI, gR_sL, g_123, g_118, g_121, g_122, Int.reduceLT, Int.reduceLE, show (0 : Int).toNat = 0 from rfl, g, e26, nl, i1, i2, Int.toNat_natCast, c1', c2', c3', p122, e3]
        exact ih
      · have e : rchV t n (aV ρ k) = aV ρ k := if_neg c
        rw [e, wrV_eta] at ih
        have s53 : RR (lkB tb522) (B522_2, [some (mR (some 80)), some (mI t), some (mI n), some (mI (k : Int))], [], ρ) = RR (lkB tb522) (B522_53, [some (mR (some 80)), some (mI t), some (mI n), some (mI (k : Int))], [], ρ) := by
          by_cases c1 : gI ρ 118 k = 7
          · by_cases c2 : gI ρ 121 k = t
            · have c3 : n ≤ gI ρ 122 k := by
                have : ¬ vr (aV ρ k) < n := fun q => c ⟨c1, c2, q⟩
                have : gI ρ 122 k = vr (aV ρ k) := rfl
                omega
              simp only [e522_2, Option.getD_some, Option.bind_some, Option.toList_some, Option.toList_none, List.cons_append, List.nil_append, and_self, and_true, true_and, false_and, and_false, ite_self, not_true_eq_false, not_false_eq_true, reduceIte, Nat.reduceEqDiff, ab_I, ab_L, ab_R, ao_I, ao_L, ao_R, gL_sL, gI_sI, gR_sR, gI_sL, gI_sR, gL_sI, gL_sR, gR_sI, gR_sL, g_123, g_118, g_121, g_122, Int.reduceLT, Int.reduceLE, show (0 : Int).toNat = 0 from rfl, g, e26, nl, i1, i2, Int.toNat_natCast, c1, c2, c3]
            · simp only [e522_2, Option.getD_some, Option.bind_some, Option.toList_some, Option.toList_none, List.cons_append, List.nil_append, and_self, and_true, true_and, false_and, and_false, ite_self, not_true_eq_false, not_false_eq_true, reduceIte, Nat.reduceEqDiff, ab_I, ab_L, ab_R, ao_I, ao_L, ao_R, gL_sL, gI_sI, gR_sR, gI_sL, gI_sR, gL_sI, gL_sR, gR_sI, gR_sL, g_123, g_118, g_121, g_122, Int.reduceLT, Int.reduceLE, show (0 : Int).toNat = 0 from rfl, g, e26, nl, i1, i2, Int.toNat_natCast, c1, c2]
          · simp only [e522_2, Option.getD_some, Option.bind_some, Option.toList_some, Option.toList_none, List.cons_append, List.nil_append, and_self, and_true, true_and, false_and, and_false, ite_self, not_true_eq_false, not_false_eq_true, reduceIte, Nat.reduceEqDiff, ab_I, ab_L, ab_R, ao_I, ao_L, ao_R, gL_sL, gI_sI, gR_sR, gI_sL, gI_sR, gL_sI, gL_sR, gR_sI, gR_sL, g_123, g_118, g_121, g_122, Int.reduceLT, Int.reduceLE, show (0 : Int).toNat = 0 from rfl, g, e26, nl, i1, i2, Int.toNat_natCast, c1]
        rw [s53, e522_53, e3]
        exact ih
  have := key (26 * F) (Nat.le_refl _)
  rw [Nat.sub_self] at this
  rw [M522, e522_0]
  exact this
theorem L518 (h : gI σ 123 0 = (F : Int)) (hF : F ≤ 4) : RR (lkB tb518) (B518_2, [some (mR (some 80)), some (mI t), some (mI n), some (mI 0)], [], σ) = RR (lkB tb518) (B518_2, [some (mR (some 80)), some (mI t), some (mI n), some (mI ((26 * F : Nat) : Int))], [], apS σ (zerV t) (26 * F)) := by
  have key : ∀ m : Nat, m ≤ 26 * F → RR (lkB tb518) (B518_2, [some (mR (some 80)), some (mI t), some (mI n), some (mI ((26 * F - m : Nat) : Int))], [], apS σ (zerV t) (26 * F - m)) = RR (lkB tb518) (B518_2, [some (mR (some 80)), some (mI t), some (mI n), some (mI ((26 * F : Nat) : Int))], [], apS σ (zerV t) (26 * F)) := by
    intro m
    induction m with
    | zero => intro _; rfl
    | succ m ih =>
      intro hm
      have ih := ih (by omega)
      have e3 : w32 (((26 * F - (m + 1) : Nat) : Int) + 1) = ((26 * F - m : Nat) : Int) := by
        rw [w32_i (by omega) (by omega)]
        omega
      rw [ap_s (by omega)] at ih
      have g : gI (apS σ (zerV t) (26 * F - (m + 1))) 123 0 = (F : Int) := (ap_I (by omega)).trans h
      have hi : inB ((26 * F - (m + 1) : Nat) : Int) := ⟨by omega, by omega⟩
      generalize ek : 26 * F - (m + 1) = k at *
      generalize eρ : apS σ (zerV t) k = ρ at *
      have i1 := hi.1
      have i2 := hi.2
      have nl : ¬ ((26 * F : Nat) : Int) ≤ (k : Int) := by omega
      have e26 : w32 (26 * (F : Int)) = ((26 * F : Nat) : Int) := by rw [w32_i (by omega) (by omega)]; omega
      have t93 := T493 (σ := ρ) hi
      rw [Int.toNat_natCast] at t93
      by_cases c : isMb (aV ρ k) ∧ vt (aV ρ k) = t
      · have e : zerV t (aV ρ k) = numV (cstN 0#64) := if_pos c
        rw [e] at ih
        obtain ⟨c1, c2⟩ := c
        have c2' : gI ρ 121 k = t := c2
        simp only [e518_2, e518_20, e518_39, Option.getD_some, Option.bind_some, Option.toList_some, Option.toList_none, List.cons_append, List.nil_append, and_self, and_true, true_and, false_and, and_false, ite_self, not_true_eq_false, not_false_eq_true, reduceIte, Nat.reduceEqDiff, ab_I, ab_L, ab_R, ao_I, ao_L, ao_R, gL_sL, gI_sI, gR_sR, gI_sL, gI_sR, gL_sI, gL_sR, gR_sI, gR_sL, g_123, g_121, Int.reduceLT, Int.reduceLE, show (0 : Int).toNat = 0 from rfl, g, e26, nl, i1, i2, Int.toNat_natCast, t93, b2_0', c1, c2', T433 hi.1 hi.2, e3]
        exact ih
      · have e : zerV t (aV ρ k) = aV ρ k := if_neg c
        rw [e, wrV_eta] at ih
        have s39 : RR (lkB tb518) (B518_2, [some (mR (some 80)), some (mI t), some (mI n), some (mI (k : Int))], [], ρ) = RR (lkB tb518) (B518_39, [some (mR (some 80)), some (mI t), some (mI n), some (mI (k : Int))], [], ρ) := by
          by_cases c1 : isMb (aV ρ k)
          · have c2 : ¬ gI ρ 121 k = t := fun q => c ⟨c1, q⟩
            simp only [e518_2, e518_20, Option.getD_some, Option.bind_some, Option.toList_some, Option.toList_none, List.cons_append, List.nil_append, and_self, and_true, true_and, false_and, and_false, ite_self, not_true_eq_false, not_false_eq_true, reduceIte, Nat.reduceEqDiff, ab_I, ab_L, ab_R, ao_I, ao_L, ao_R, gL_sL, gI_sI, gR_sR, gI_sL, gI_sR, gL_sI, gL_sR, gR_sI, gR_sL, g_123, g_121, Int.reduceLT, Int.reduceLE, show (0 : Int).toNat = 0 from rfl, g, e26, nl, i1, i2, Int.toNat_natCast, t93, b2_0', c1, c2]
          · simp only [e518_2, e518_20, Option.getD_some, Option.bind_some, Option.toList_some, Option.toList_none, List.cons_append, List.nil_append, and_self, and_true, true_and, false_and, and_false, ite_self, not_true_eq_false, not_false_eq_true, reduceIte, Nat.reduceEqDiff, ab_I, ab_L, ab_R, ao_I, ao_L, ao_R, gL_sL, gI_sI, gR_sR, gI_sL, gI_sR, gL_sI, gL_sR, gR_sI, gR_sL, g_123, g_121, Int.reduceLT, Int.reduceLE, show (0 : Int).toNat = 0 from rfl, g, e26, nl, i1, i2, Int.toNat_natCast, t93, b2_0', c1]
        rw [s39, e518_39, e3]
        exact ih
  have := key (26 * F) (Nat.le_refl _)
  rw [Nat.sub_self] at this
  exact this
theorem T519 (h : gI σ 123 0 = (F : Int)) (hF : F ≤ 4) : MM 519 [mR (some 80), mI t] σ = some (none, apS σ (plcV t) (26 * F)) := by
  have key : ∀ m : Nat, m ≤ 26 * F → RR (lkB tb519) (B519_2, [some (mR (some 80)), some (mI t), some (mI ((26 * F - m : Nat) : Int)), none], [], apS σ (plcV t) (26 * F - m)) = some (none, apS σ (plcV t) (26 * F)) := by
    intro m
    induction m with
    | zero =>
      intro _
      have g : gI (apS σ (plcV t) (26 * F - 0)) 123 0 = (F : Int) := (ap_I (by omega)).trans h
      rw [e519_2]
      simp only [g_123]
      rw [if_pos ⟨by omega, by omega⟩, show (0 : Int).toNat = 0 from rfl, g, w32_i (by omega) (by omega), if_pos (by omega)]
      rfl
    | succ m ih =>
      intro hm
      have ih := ih (by omega)
      have e3 : w32 (((26 * F - (m + 1) : Nat) : Int) + 1) = ((26 * F - m : Nat) : Int) := by
        rw [w32_i (by omega) (by omega)]
        omega
      rw [ap_s (by omega)] at ih
      have g : gI (apS σ (plcV t) (26 * F - (m + 1))) 123 0 = (F : Int) := (ap_I (by omega)).trans h
      have hi : inB ((26 * F - (m + 1) : Nat) : Int) := ⟨by omega, by omega⟩
      generalize ek : 26 * F - (m + 1) = k at *
      generalize eρ : apS σ (plcV t) k = ρ at *
      have i1 := hi.1
      have i2 := hi.2
      have nl : ¬ ((26 * F : Nat) : Int) ≤ (k : Int) := by omega
      have e26 : w32 (26 * (F : Int)) = ((26 * F : Nat) : Int) := by rw [w32_i (by omega) (by omega)]; omega
      have t93 := T493 (σ := ρ) hi
      rw [Int.toNat_natCast] at t93
      by_cases c : isMb (aV ρ k) ∧ vt (aV ρ k) = t
      · have e : plcV t (aV ρ k) = mkV (if vk (aV ρ k) = 6 then 5 else 9) (vw (aV ρ k)) (if vk (aV ρ k) = 6 then 0 else t) := if_pos c
        rw [e] at ih
        obtain ⟨c1, c2⟩ := c
        have c2' : gI ρ 121 k = t := c2
        by_cases c6 : vk (aV ρ k) = 6
        · rw [if_pos c6, if_pos c6] at ih
          have c6' : gI ρ 118 k = 6 := c6
          simp only [e519_2, e519_20, e519_49, e519_62, e519_77, Option.getD_some, Option.bind_some, Option.toList_some, Option.toList_none, List.cons_append, List.nil_append, and_self, and_true, true_and, false_and, and_false, ite_self, not_true_eq_false, not_false_eq_true, reduceIte, Nat.reduceEqDiff, ab_I, ab_L, ab_R, ao_I, ao_L, ao_R, gL_sL, gI_sI, gR_sR, gI_sL, gI_sR, gL_sI, gL_sR, gR_sI, gR_sL, g_123, g_118, g_120, g_121, Int.reduceLT, Int.reduceLE, show (0 : Int).toNat = 0 from rfl, g, e26, nl, i1, i2, Int.toNat_natCast, t93, b2_0', c1, c2', c6', oneI, T431 hi (show (0 : Int) ≤ 5 ∧ (5 : Int) ≤ 10 by decide)]
          refine RR_q (ls := [some (mR (some 80)), some (mI t), some (mI (k : Int)), none]) ?_ (by repeat (first | exact lq_nil | refine lq_cons (Or.inr rfl) ?_ | refine lq_cons (Or.inl rfl) ?_))
          rw [e519_80, e3]
          exact ih
        · rw [if_neg c6, if_neg c6] at ih
          have c6' : ¬ gI ρ 118 k = 6 := c6
          simp only [e519_2, e519_20, e519_49, e519_62, e519_77, Option.getD_some, Option.bind_some, Option.toList_some, Option.toList_none, List.cons_append, List.nil_append, and_self, and_true, true_and, false_and, and_false, ite_self, not_true_eq_false, not_false_eq_true, reduceIte, Nat.reduceEqDiff, ab_I, ab_L, ab_R, ao_I, ao_L, ao_R, gL_sL, gI_sI, gR_sR, gI_sL, gI_sR, gL_sI, gL_sR, gR_sI, gR_sL, g_123, g_118, g_120, g_121, Int.reduceLT, Int.reduceLE, show (0 : Int).toNat = 0 from rfl, g, e26, nl, i1, i2, Int.toNat_natCast, t93, b2_0', c1, c2', c6', oneI, T431 hi (show (0 : Int) ≤ 9 ∧ (9 : Int) ≤ 10 by decide)]
          refine RR_q (ls := [some (mR (some 80)), some (mI t), some (mI (k : Int)), none]) ?_ (by repeat (first | exact lq_nil | refine lq_cons (Or.inr rfl) ?_ | refine lq_cons (Or.inl rfl) ?_))
          rw [e519_80, e3]
          exact ih
      · have e : plcV t (aV ρ k) = aV ρ k := if_neg c
        rw [e, wrV_eta] at ih
        have s80 : RR (lkB tb519) (B519_2, [some (mR (some 80)), some (mI t), some (mI (k : Int)), none], [], ρ) = RR (lkB tb519) (B519_80, [some (mR (some 80)), some (mI t), some (mI (k : Int)), none], [], ρ) := by
          by_cases c1 : isMb (aV ρ k)
          · have c2 : ¬ gI ρ 121 k = t := fun q => c ⟨c1, q⟩
            simp only [e519_2, e519_20, Option.getD_some, Option.bind_some, Option.toList_some, Option.toList_none, List.cons_append, List.nil_append, and_self, and_true, true_and, false_and, and_false, ite_self, not_true_eq_false, not_false_eq_true, reduceIte, Nat.reduceEqDiff, ab_I, ab_L, ab_R, ao_I, ao_L, ao_R, gL_sL, gI_sI, gR_sR, gI_sL, gI_sR, gL_sI, gL_sR, gR_sI, gR_sL, g_123, g_121, Int.reduceLT, Int.reduceLE, show (0 : Int).toNat = 0 from rfl, g, e26, nl, i1, i2, Int.toNat_natCast, t93, b2_0', c1, c2]
          · simp only [e519_2, e519_20, Option.getD_some, Option.bind_some, Option.toList_some, Option.toList_none, List.cons_append, List.nil_append, and_self, and_true, true_and, false_and, and_false, ite_self, not_true_eq_false, not_false_eq_true, reduceIte, Nat.reduceEqDiff, ab_I, ab_L, ab_R, ao_I, ao_L, ao_R, gL_sL, gI_sI, gR_sR, gI_sL, gI_sR, gL_sI, gL_sR, gR_sI, gR_sL, g_123, g_121, Int.reduceLT, Int.reduceLE, show (0 : Int).toNat = 0 from rfl, g, e26, nl, i1, i2, Int.toNat_natCast, t93, b2_0', c1]
        rw [s80, e519_80, e3]
        exact ih
  have := key (26 * F) (Nat.le_refl _)
  rw [Nat.sub_self] at this
  rw [M519, e519_0]
  exact this
end LP
