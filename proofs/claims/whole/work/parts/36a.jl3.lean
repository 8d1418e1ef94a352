/-! ===== whether bytes are there; the parts of stacks ===== -/
theorem ab98 {σ : MS} {i : Int} (h : 0 ≤ i ∧ i ≤ 7) : (Option.isSome (some 98) = true ∧ ab σ 3 98 i) = True := by
  rw [g_98]
  exact eq_true ⟨h.1, by omega⟩
set_option maxHeartbeats 2000000 in
theorem T503 {x y : Int} {n : Nat} {g : Nat} {t : Int} {E : EV} {σ : MS} (hx : inB x) (hm : mvs (aV σ x.toNat)) (hv : okV E g t (aV σ x.toNat)) (hE : EO σ E) (hr : vk (aV σ x.toNat) = 7 → 0 ≤ vr (aV σ x.toNat)) (hy : -32768 ≤ y ∧ y ≤ 32767) (hn : n ≤ 1000) : MM 503 [mR (some 80), mI x, mI y, mI (n : Int)] σ = some (some (mI (b2 (room E (aV σ x.toNat) y n))), if vk (aV σ x.toNat) = 3 then sI (sI σ 80 103 (vw (aV σ x.toNat))) 80 102 (vo (aV σ x.toNat) + y + 128) else σ) := by
  obtain ⟨v1, v2, v3, v4, v5, v6, v7, v8, v9, v10⟩ := hv
  have ho := v2 hm
  have ea : iL (gI σ 119 x.toNat) + iL y = iL (vo (aV σ x.toNat) + y) := iLa _ _
  have et : (iL (vo (aV σ x.toNat) + y)).toInt = vo (aV σ x.toNat) + y := iLt (by omega) (by omega)
  have en : w32 (-(n : Int)) = -(n : Int) := w32_i (by omega) (by omega)
  have en2 : (iL (-(n : Int))).toInt = -(n : Int) := iLt (by omega) (by omega)
  have i1 : (iL (-128)).toInt = -128 := by decide
  have el : lI (iL (vo (aV σ x.toNat) + y)) = vo (aV σ x.toNat) + y := lIi (by omega) (by omega)
  have e128 : w32 (vo (aV σ x.toNat) + y + 128) = vo (aV σ x.toNat) + y + 128 := w32_i (by omega) (by omega)
  have z0 : (BitVec.ofNat 64 0).toInt = 0 := rfl
  have uB : ∀ p : Prop, ∀ d : Decidable p, p → some (some (mI 1), σ) = some (some (mI (@b2 p d)), σ) := fun p d h => by rw [b2_yes h]
  have uN : ∀ p : Prop, ∀ d : Decidable p, ¬ p → some (some (mI 0), σ) = some (some (mI (@b2 p d)), σ) := fun p d h => by rw [b2_no h]
  by_cases k3 : vk (aV σ x.toNat) = 3
  · have k3' : gI σ 118 x.toNat = 3 := k3
    rw [if_pos k3]
    have rm : room E (aV σ x.toNat) y n ↔ (-128 ≤ vo (aV σ x.toNat) + y ∧ vo (aV σ x.toNat) + y ≤ -(n : Int)) := by
      unfold room
      rw [if_pos k3]
    rw [b2_c (e := inferInstance) rm]
    simp only [M503, e503_0, e503_65, Option.getD_some, Option.bind_some, Option.toList_some, Option.toList_none, List.cons_append, List.nil_append, and_self, and_true, true_and, false_and, and_false, ite_self, not_true_eq_false, not_false_eq_true, reduceIte, Nat.reduceEqDiff, ab_I, ab_L, ab_R, ao_I, ao_L, ao_R, gL_sL, gI_sI, gR_sR, gI_sL, gI_sR, gL_sI, gL_sR, gR_sI, gR_sL, g_98, g_114, g_115, g_118, g_119, g_120, g_122, hx.1, hx.2, k3', ea, et, en, en2, i1, el, e128]
    by_cases c1 : vo (aV σ x.toNat) + y < -128
    · rw [if_pos c1, b2_no (by omega)]
      rfl
    · rw [if_neg c1]
      by_cases c2 : -(n : Int) < vo (aV σ x.toNat) + y
      · rw [if_pos c2, b2_no (by omega)]
        rfl
      · rw [if_neg c2, b2_yes (by omega)]
        rfl
  · have k3' : ¬ gI σ 118 x.toNat = 3 := k3
    rw [if_neg k3]
    by_cases k7 : vk (aV σ x.toNat) = 7
    · have k7' : gI σ 118 x.toNat = 7 := k7
      have r0 := hr k7
      have r1 := v10 k7
      have er : (iL (gI σ 122 x.toNat)).toInt = vr (aV σ x.toNat) := iLt (by have : gI σ 122 x.toNat = vr (aV σ x.toNat) := rfl; omega) (by have : gI σ 122 x.toNat = vr (aV σ x.toNat) := rfl; omega)
      have es : (iL (vo (aV σ x.toNat) + y) + iL (n : Int)).toInt = vo (aV σ x.toNat) + y + n := by rw [iLa, iLt (by omega) (by omega)]
      have rm : room E (aV σ x.toNat) y n ↔ (0 ≤ vo (aV σ x.toNat) + y ∧ vo (aV σ x.toNat) + y + n ≤ vr (aV σ x.toNat)) := by
        unfold room
        rw [if_neg k3, if_pos k7]
      rw [b2_c (e := inferInstance) rm]
      simp only [M503, e503_0, e503_105, Option.getD_some, Option.bind_some, Option.toList_some, Option.toList_none, List.cons_append, List.nil_append, and_self, and_true, true_and, false_and, and_false, ite_self, not_true_eq_false, not_false_eq_true, reduceIte, Nat.reduceEqDiff, ab_I, ab_L, ab_R, ao_I, ao_L, ao_R, gL_sL, gI_sI, gR_sR, gI_sL, gI_sR, gL_sI, gL_sR, gR_sI, gR_sL, g_98, g_114, g_115, g_118, g_119, g_120, g_122, hx.1, hx.2, k7', ea, et, er, es, z0, Int.reduceEq]
      by_cases c1 : vo (aV σ x.toNat) + y < 0
      · rw [if_pos c1, b2_no (by omega)]
      · rw [if_neg c1]
        by_cases c2 : vr (aV σ x.toNat) < vo (aV σ x.toNat) + y + n
        · rw [if_pos c2, b2_no (by omega)]
        · rw [if_neg c2, b2_yes (by omega)]
    · have k7' : ¬ gI σ 118 x.toNat = 7 := k7
      have key : ∀ sz : Int, (0 ≤ sz ∧ sz ≤ 64) → RR (lkB tb503) (B503_137, [some (mR (some 80)), some (mI x), some (mI y), some (mI (n : Int)), some (mL (iL (vo (aV σ x.toNat) + y))), none, none], [mI sz], σ) = some (some (mI (b2 (0 ≤ (iL (vo (aV σ x.toNat) + y) + jA (vn (aV σ x.toNat))).toInt ∧ (iL (vo (aV σ x.toNat) + y) + jB (vn (aV σ x.toNat)) + iL (n : Int)).toInt ≤ sz))), σ) := fun sz hs => by
        have e1 : (iL sz).toInt = sz := iLt (by omega) (by omega)
        simp only [e503_137, e503_176, Option.getD_some, Option.bind_some, Option.toList_some, Option.toList_none, List.cons_append, List.nil_append, and_self, and_true, true_and, false_and, and_false, ite_self, not_true_eq_false, not_false_eq_true, reduceIte, Nat.reduceEqDiff, ab_I, ab_L, ab_R, ao_I, ao_L, ao_R, gL_sL, gI_sI, gR_sR, gI_sL, gI_sR, gL_sI, gL_sR, gR_sI, gR_sL, g_98, g_114, g_115, g_118, g_119, g_120, g_122, hx.1, hx.2, q114, q115, z0, e1]
        by_cases c1 : (iL (vo (aV σ x.toNat) + y) + jA (vn (aV σ x.toNat))).toInt < 0
        · rw [if_pos c1, b2_no (by omega)]
        · rw [if_neg c1]
          by_cases c2 : sz < (iL (vo (aV σ x.toNat) + y) + jB (vn (aV σ x.toNat)) + iL (n : Int)).toInt
          · rw [if_pos c2, b2_no (by omega)]
          · rw [if_neg c2, b2_yes (by omega)]
      by_cases k5 : vk (aV σ x.toNat) = 5
      · have k5' : gI σ 118 x.toNat = 5 := k5
        obtain ⟨w1, w2, w3⟩ := v5 (Or.inl k5)
        have w1' : 0 ≤ gI σ 120 x.toNat ∧ gI σ 120 x.toNat ≤ 7 := w1
        have es : gI σ 98 (gI σ 120 x.toNat).toNat = E.2.2 (vw (aV σ x.toNat)).toNat := (hE (gI σ 120 x.toNat).toNat (by omega)).2.1
        have g98 : 0 ≤ gI σ 120 x.toNat ∧ gI σ 120 x.toNat < 8 := ⟨w1'.1, by omega⟩
        have rm : room E (aV σ x.toNat) y n ↔ (0 ≤ (iL (vo (aV σ x.toNat) + y) + jA (vn (aV σ x.toNat))).toInt ∧ (iL (vo (aV σ x.toNat) + y) + jB (vn (aV σ x.toNat)) + iL (n : Int)).toInt ≤ E.2.2 (vw (aV σ x.toNat)).toNat) := by
          unfold room
          rw [if_neg k3, if_neg k7, if_pos k5]
          exact Iff.rfl
        rw [b2_c (e := inferInstance) rm]
        simp only [M503, e503_0, Option.getD_some, Option.bind_some, Option.toList_some, Option.toList_none, List.cons_append, List.nil_append, and_self, and_true, true_and, false_and, and_false, ite_self, not_true_eq_false, not_false_eq_true, reduceIte, Nat.reduceEqDiff, ab_I, ab_L, ab_R, ao_I, ao_L, ao_R, gL_sL, gI_sI, gR_sR, gI_sL, gI_sR, gL_sI, gL_sR, gR_sI, gR_sL, g_98, g_114, g_115, g_118, g_119, g_120, g_122, hx.1, hx.2, k5', ea, es, g98.1, g98.2, Int.reduceEq]
        exact key _ ⟨by omega, by omega⟩
      · have k5' : ¬ gI σ 118 x.toNat = 5 := k5
        have k9 : vk (aV σ x.toNat) = 9 := by rcases hm with k | k | k | k <;> first | exact absurd k (by assumption) | exact k
        have w := v9 (Or.inl k9)
        have rm : room E (aV σ x.toNat) y n ↔ (0 ≤ (iL (vo (aV σ x.toNat) + y) + jA (vn (aV σ x.toNat))).toInt ∧ (iL (vo (aV σ x.toNat) + y) + jB (vn (aV σ x.toNat)) + iL (n : Int)).toInt ≤ vw (aV σ x.toNat)) := by
          unfold room
          rw [if_neg k3, if_neg k7, if_neg k5]
          exact Iff.rfl
        rw [b2_c (e := inferInstance) rm]
        simp only [M503, e503_0, Option.getD_some, Option.bind_some, Option.toList_some, Option.toList_none, List.cons_append, List.nil_append, and_self, and_true, true_and, false_and, and_false, ite_self, not_true_eq_false, not_false_eq_true, reduceIte, Nat.reduceEqDiff, ab_I, ab_L, ab_R, ao_I, ao_L, ao_R, gL_sL, gI_sI, gR_sR, gI_sL, gI_sR, gL_sI, gL_sR, gR_sI, gR_sL, g_98, g_114, g_115, g_118, g_119, g_120, g_122, hx.1, hx.2, k3', k7', k5', ea]
        exact key _ ⟨by have : gI σ 120 x.toNat = vw (aV σ x.toNat) := rfl; omega, by have : gI σ 120 x.toNat = vw (aV σ x.toNat) := rfl; omega⟩
theorem T504 {b : Nat} {σ : MS} (h : 0 ≤ gI σ 80 103 ∧ gI σ 80 103 ≤ 3) (hb : b < 1000) : MM 504 [mR (some 80), mI (b : Int)] σ = some (some (mI ((26 * (gI σ 80 103).toNat + 10 + b / 8 : Nat) : Int)), σ) := by
  have e1 : w32 (26 * gI σ 80 103) = 26 * gI σ 80 103 := w32_i (by omega) (by omega)
  have e2 : w32 (26 * gI σ 80 103 + 10) = 26 * gI σ 80 103 + 10 := w32_i (by omega) (by omega)
  have e3 : w32 ((b / 8 : Nat) : Int) = ((b / 8 : Nat) : Int) := w32_i (by omega) (by omega)
  have e4 : w32 (26 * gI σ 80 103 + 10 + ((b / 8 : Nat) : Int)) = ((26 * (gI σ 80 103).toNat + 10 + b / 8 : Nat) : Int) := by
    rw [w32_i (by omega) (by omega)]
    omega
  rw [M504, e504_0, tdiv8, e1, e2, e3, e4]
theorem bit_rd {r : Int} {b : Nat} (h : 0 ≤ r) : (iAnd (iShr r (Int.tmod (b : Int) 8)) 1 = 1) = (r.toNat.testBit (b % 8) = true) := by
  have e1 : iAnd (iShr r (Int.tmod (b : Int) 8)) 1 = iShr r (Int.tmod (b : Int) 8) % 2 := iAnd_mask (k := 1) (by omega)
  rw [e1, tmod8]
  unfold iShr
  have e2 : ((((b % 8 : Nat) : Int)) % 32).toNat = b % 8 := by omega
  rw [e2, Nat.testBit_eq_decide_div_mod_eq, decide_eq_true_eq]
  have e3 : (r / (2 : Int) ^ (b % 8)) = ((r.toNat / 2 ^ (b % 8) : Nat) : Int) := by
    rw [Int.natCast_ediv, Int.toNat_of_nonneg h, Int.natCast_pow]
    rfl
  rw [e3]
  exact propext (by omega)
theorem sub_s1 {n m : Nat} (h : m + 1 ≤ n) : n - m = (n - (m + 1)) + 1 := by omega
theorem prt_lt {f b k F : Nat} (h1 : f < F) (h2 : b + k < 128) : 26 * f + 10 + (b + k) / 8 < 26 * F := by omega
theorem L505 {n b f : Nat} {S : ST} {σ : MS} (hJ : J0 σ S) (hF : sF S ≤ 4) (hc : canS S) (h1 : f < sF S) (hB : gI σ 80 102 = (b : Int)) (hf : gI σ 80 103 = (f : Int)) (bn : b + n ≤ 128) : MM 505 [mR (some 80), mI (n : Int)] σ = some (some (mI (b2 (areS S f b n = true))), σ) := by
  have eN : w32 (gI σ 80 102 + (n : Int)) = ((b + n : Nat) : Int) := by
    rw [w32_i (by omega) (by omega)]
    omega
  have key : ∀ k j : Nat, j + k = n → RR (lkB tb505) (B505_7, [some (mR (some 80)), some (mI (n : Int)), some (mI (b2 (areS S f b k = true))), some (mI ((b + k : Nat) : Int)), none], [], σ) = some (some (mI (b2 (areS S f b n = true))), σ) := by
    intro k j
    induction j generalizing k with
    | zero =>
      intro e
      have e : k = n := by omega
      subst e
      rw [e505_7, eN, if_pos (by omega), if_pos (by rw [bl_b2]; trivial)]
    | succ j ih =>
      intro e
      have kn : k < n := by omega
      have e3 : w32 (((b + k : Nat) : Int) + 1) = ((b + (k + 1) : Nat) : Int) := by
        rw [w32_i (by omega) (by omega)]
        omega
      have ar : areS S f b (k + 1) = (areS S f b k && decide (setB S f (b + k))) := areS_s
      have lt : 26 * f + 10 + (b + k) / 8 < 26 * sF S := prt_lt h1 (by omega)
      have hv := J0_v hJ lt
      have cv := hc _ lt
      obtain ⟨p, hp⟩ : ∃ p, p = 26 * f + 10 + (b + k) / 8 := ⟨_, rfl⟩
      rw [← hp] at lt hv cv
      have t4 : MM 504 [mR (some 80), mI ((b + k : Nat) : Int)] σ = some (some (mI (p : Int)), σ) := by
        have := T504 (σ := σ) (b := b + k) (by omega) (by omega)
        rwa [show (gI σ 80 103).toNat = f by omega, ← hp] at this
      have ih := ih (k + 1) (by omega)
      have fin : ∀ q : Prop, ∀ d : Decidable q, (q ↔ areS S f b (k + 1) = true) → RR (lkB tb505) (B505_75, [some (mR (some 80)), some (mI (n : Int)), some (mI (b2 (areS S f b k = true))), some (mI ((b + k : Nat) : Int)), some (mI (p : Int))], [mI (@b2 q d)], σ) = some (some (mI (b2 (areS S f b n = true))), σ) := fun q d hq => by
        rw [e505_75, e3, b2_c (e := inferInstance) hq]
        exact RR_q ih (by repeat (first | exact lq_nil | refine lq_cons (Or.inr rfl) ?_ | refine lq_cons (Or.inl rfl) ?_))
      have f0 : ¬ areS S f b (k + 1) = true → RR (lkB tb505) (B505_74, [some (mR (some 80)), some (mI (n : Int)), some (mI (b2 (areS S f b k = true))), some (mI ((b + k : Nat) : Int)), some (mI (p : Int))], [], σ) = some (some (mI (b2 (areS S f b n = true))), σ) := fun h => by
        rw [e505_74]
        have := fin False inferInstance ⟨fun z => z.elim, h⟩
        rwa [b2_no (p := False) not_false] at this
      have f1 : areS S f b (k + 1) = true → RR (lkB tb505) (B505_70, [some (mR (some 80)), some (mI (n : Int)), some (mI (b2 (areS S f b k = true))), some (mI ((b + k : Nat) : Int)), some (mI (p : Int))], [], σ) = some (some (mI (b2 (areS S f b n = true))), σ) := fun h => by
        rw [e505_70]
        have := fin True inferInstance ⟨fun _ => h, fun _ => trivial⟩
        rwa [b2_yes (p := True) trivial] at this
      have kk : gI σ 118 p = vk (sV S p) := by rw [q118, hv]
      have rr : gI σ 122 p = vr (sV S p) := by rw [q122, hv]
      have pb : 0 ≤ (p : Int) ∧ (p : Int) < 32664 := by omega
      rw [e505_7, eN, if_neg (by omega), t4]
      simp only [Option.bind_some, Option.toList_some, List.cons_append, List.nil_append]
      rw [e505_22]
      simp only [g_118, g_122, Int.toNat_natCast, kk, rr]
      by_cases a : areS S f b k = true
      · rw [if_neg (show ¬ b2 (areS S f b k = true) = 0 by rw [b2_yes a]; decide), if_pos pb]
        rw [a, Bool.true_and] at ar
        by_cases k0 : vk (sV S p) = 0
        · rw [if_neg (not_not_intro k0), if_pos pb]
          simp only [bit_rd (cv.2.1 k0).2.1]
          have sb : setB S f (b + k) ↔ (vr (sV S p)).toNat.testBit ((b + k) % 8) = true := by
            unfold setB
            rw [← hp, if_pos k0]
          by_cases t : (vr (sV S p)).toNat.testBit ((b + k) % 8) = true
          · rw [if_neg (not_not_intro t)]
            exact f1 (by rw [ar]; exact decide_eq_true (sb.mpr t))
          · rw [if_pos t]
            exact f0 (by rw [ar]; exact fun z => t (sb.mp (of_decide_eq_true z)))
        · rw [if_pos k0, if_pos pb]
          have sb : setB S f (b + k) ↔ vk (sV S p) = 1 := by
            unfold setB
            rw [← hp, if_neg k0]
          by_cases t : vk (sV S p) = 1
          · rw [if_neg (not_not_intro t)]
            exact f1 (by rw [ar]; exact decide_eq_true (sb.mpr t))
          · rw [if_pos t]
            exact f0 (by rw [ar]; exact fun z => t (sb.mp (of_decide_eq_true z)))
      · rw [if_pos (b2_no a)]
        have a' : areS S f b k = false := by simpa using a
        exact f0 (by rw [ar, a', Bool.false_and]; decide)
  have := key 0 n (by omega)
  rw [M505, e505_0, hB]
  rw [areS_0, b2_yes rfl] at this
  exact this
theorem T505 {n : Nat} {S : ST} {σ : MS} (hJ : J0 σ S) (hF : sF S ≤ 4) (hc : canS S) (h1 : 0 ≤ gI σ 80 103 ∧ gI σ 80 103 < sF S) (h2 : 0 ≤ gI σ 80 102) (h3 : gI σ 80 102 + n ≤ 128) : MM 505 [mR (some 80), mI (n : Int)] σ = some (some (mI (b2 (areS S (gI σ 80 103).toNat (gI σ 80 102).toNat n = true))), σ) :=
  L505 hJ hF hc (by omega) (by omega) (by omega) (by omega)
theorem T506 {x : Int} {σ : MS} (hx : inB x) : MM 506 [mR (some 80), mI x] σ = some (none, wrV σ x.toNat (unpV (aV σ x.toNat))) := by
  unfold unpV
  by_cases c0 : gI σ 118 x.toNat = 0
  · rw [if_pos (show vk (aV σ x.toNat) = 0 from c0), wrV_eta]
    simp only [M506, e506_0, Option.getD_some, Option.bind_some, Option.toList_some, Option.toList_none, List.cons_append, List.nil_append, and_self, and_true, true_and, false_and, and_false, ite_self, not_true_eq_false, not_false_eq_true, reduceIte, Nat.reduceEqDiff, ab_I, ab_L, ab_R, ao_I, ao_L, ao_R, gL_sL, gI_sI, gR_sR, gI_sL, gI_sR, gL_sI, gL_sR, gR_sI, gR_sL, g_118, g_122, hx.1, hx.2, c0]
  · rw [if_neg (show ¬ vk (aV σ x.toNat) = 0 from c0)]
    by_cases c1 : gI σ 118 x.toNat = 1
    · rw [if_pos (show vk (aV σ x.toNat) = 1 from c1)]
      simp only [M506, e506_0, e506_26, e506_35, Option.getD_some, Option.bind_some, Option.toList_some, Option.toList_none, List.cons_append, List.nil_append, and_self, and_true, true_and, false_and, and_false, ite_self, not_true_eq_false, not_false_eq_true, reduceIte, Nat.reduceEqDiff, ab_I, ab_L, ab_R, ao_I, ao_L, ao_R, gL_sL, gI_sI, gR_sR, gI_sL, gI_sR, gL_sI, gL_sR, gR_sI, gR_sL, g_118, g_122, hx.1, hx.2, c1, oneI, T431 hx (show (0 : Int) ≤ 0 ∧ (0 : Int) ≤ 10 by decide), p122, aV_same, wrV_same]
      rfl
    · rw [if_neg (show ¬ vk (aV σ x.toNat) = 1 from c1)]
      simp only [M506, e506_0, e506_26, e506_35, Option.getD_some, Option.bind_some, Option.toList_some, Option.toList_none, List.cons_append, List.nil_append, and_self, and_true, true_and, false_and, and_false, ite_self, not_true_eq_false, not_false_eq_true, reduceIte, Nat.reduceEqDiff, ab_I, ab_L, ab_R, ao_I, ao_L, ao_R, gL_sL, gI_sI, gR_sR, gI_sL, gI_sR, gL_sI, gL_sR, gR_sI, gR_sL, g_118, g_122, hx.1, hx.2, c0, c1, T431 hx (show (0 : Int) ≤ 0 ∧ (0 : Int) ≤ 10 by decide), p122, aV_same, wrV_same]
      rfl
theorem T508 {w : B64} {σ : MS} : MM 508 [mI (fOp w)] σ = some (some (mI ((bytN w : Nat) : Int)), σ) := by
  have f := fld_rng w
  have r : fB w = 0 ∨ fB w = 1 ∨ fB w = 2 ∨ fB w = 3 := by unfold fB; omega
  rcases r with c | c | c | c
  · have e : iAnd (fOp w) 24 = 0 := by rw [m24, c]; rfl
    simp only [M508, e508_0, Option.getD_some, Option.bind_some, Option.toList_some, Option.toList_none, List.cons_append, List.nil_append, and_self, and_true, true_and, false_and, and_false, ite_self, not_true_eq_false, not_false_eq_true, reduceIte, Nat.reduceEqDiff, ab_I, ab_L, ab_R, ao_I, ao_L, ao_R, gL_sL, gI_sI, gR_sR, gI_sL, gI_sR, gL_sI, gL_sR, gR_sI, gR_sL, e, bytN, c]
    rfl
  · have e : iAnd (fOp w) 24 = 8 := by rw [m24, c]; rfl
    simp only [M508, e508_0, Option.getD_some, Option.bind_some, Option.toList_some, Option.toList_none, List.cons_append, List.nil_append, and_self, and_true, true_and, false_and, and_false, ite_self, not_true_eq_false, not_false_eq_true, reduceIte, Nat.reduceEqDiff, ab_I, ab_L, ab_R, ao_I, ao_L, ao_R, gL_sL, gI_sI, gR_sR, gI_sL, gI_sR, gL_sI, gL_sR, gR_sI, gR_sL, e, bytN, c, Int.reduceEq]
    rfl
  · have e : iAnd (fOp w) 24 = 16 := by rw [m24, c]; rfl
    simp only [M508, e508_0, Option.getD_some, Option.bind_some, Option.toList_some, Option.toList_none, List.cons_append, List.nil_append, and_self, and_true, true_and, false_and, and_false, ite_self, not_true_eq_false, not_false_eq_true, reduceIte, Nat.reduceEqDiff, ab_I, ab_L, ab_R, ao_I, ao_L, ao_R, gL_sL, gI_sI, gR_sR, gI_sL, gI_sR, gL_sI, gL_sR, gR_sI, gR_sL, e, bytN, c, Int.reduceEq]
    rfl
  · have e : iAnd (fOp w) 24 = 24 := by rw [m24, c]; rfl
    simp only [M508, e508_0, Option.getD_some, Option.bind_some, Option.toList_some, Option.toList_none, List.cons_append, List.nil_append, and_self, and_true, true_and, false_and, and_false, ite_self, not_true_eq_false, not_false_eq_true, reduceIte, Nat.reduceEqDiff, ab_I, ab_L, ab_R, ao_I, ao_L, ao_R, gL_sL, gI_sI, gR_sR, gI_sL, gI_sR, gL_sI, gL_sR, gR_sI, gR_sL, e, bytN, c, Int.reduceEq]
    rfl
theorem iOr_nat {a : Int} {k : Nat} (h0 : 0 ≤ a) (h1 : a < 256) (hk : k < 8) : iOr a (iShl 1 ((k : Nat) : Int)) = ((a.toNat ||| 1 <<< k : Nat) : Int) := by
  have e1 : iShl 1 ((k : Nat) : Int) = ((1 <<< k : Nat) : Int) := by
    unfold iShl
    have e2 : (((k : Nat) : Int) % 32).toNat = k := by omega
    rw [e2, Nat.one_shiftLeft]
    have e3 : (2 : Nat) ^ k ≤ 128 := Nat.pow_le_pow_right (n := 2) (by omega) (show k ≤ 7 by omega)
    have e4 : (2 : Int) ^ k = ((2 ^ k : Nat) : Int) := by rw [Int.natCast_pow]; rfl
    rw [Int.one_mul, e4]
    generalize (2 ^ k : Nat) = q at e3
    exact w32_i (by omega) (by omega)
  rw [e1]
  have l1 : (1 <<< k : Nat) < 2 ^ 8 := by
    rw [Nat.one_shiftLeft]
    exact Nat.pow_lt_pow_right (by omega) (by omega)
  have l2 : (a.toNat ||| 1 <<< k : Nat) < 2 ^ 8 := Nat.or_lt_two_pow (by omega) l1
  generalize (1 <<< k : Nat) = q at l1 l2
  unfold iOr b32
  have t1 : (BitVec.ofInt 32 a).toNat = a.toNat := by rw [BitVec.toNat_ofInt]; omega
  have t2 : (BitVec.ofInt 32 ((q : Nat) : Int)).toNat = q := by rw [BitVec.toNat_ofInt]; omega
  rw [BitVec.toInt_eq_toNat_of_lt, BitVec.toNat_or, t1, t2]
  rw [BitVec.toNat_or, t1, t2]
  omega
