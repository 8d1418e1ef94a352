/-! ===== the reference's maps: UPDATE, REMOVE ===== -/
/-- bytes of a cell from its begin -/
def lsB (σ : MS) (k n : Nat) : List Int := (List.range n).map fun i => w8 (gI σ k i)
def frS (σ : MS) (m : Nat) : Option Nat := (List.range 32).find? fun c => decide (gI σ 104 (32 * m + c) = 0)
def puS (σ : MS) (m c : Nat) : MS := wzS σ 100 ((32 * m + c) * 64) (lsB σ 111 (gI σ 98 m).toNat)
/-- a new entry -/
def neS (σ : MS) (m c : Nat) : MS := sI (sI (wzS (sI σ 104 (32 * m + c) 1) 102 (256 * m + 16 * (gI σ 101 m).toNat) (lsB σ 110 (gI σ 97 m).toNat)) 103 (16 * m + (gI σ 101 m).toNat) (c : Int)) 101 m (gI σ 101 m + 1)
def upM (σ : MS) (m : Nat) (f : B64) : MS × Int :=
  if f.toInt < 0 ∨ 2 < f.toInt then (σ, -22)
  else if 0 ≤ fnS σ m then (if f.toInt = 1 then (σ, -17) else (puS σ m (fnS σ m).toNat, 0))
  else if gI σ 96 m = 0 then (σ, -7)
  else if f.toInt = 2 then (σ, -2)
  else if gI σ 101 m = gI σ 99 m then (σ, -7)
  else match frS σ m with
    | none => (σ, -12)
    | some c => (puS (neS σ m c) m c, 0)
section RUPD
variable {σ τ ρ : MS} {c c' : TC WR} {W V : WR} {w x A a F : B64} {r f b k n o s m e : Nat} {l key val : List Int} {y : Int}
theorem lsB_n : (lsB σ k n).length = n := by
  unfold lsB
  rw [List.length_map, List.length_range]
theorem lsB_s : lsB σ k (n + 1) = lsB σ k n ++ [w8 (gI σ k n)] := by
  unfold lsB
  rw [List.range_succ, List.map_append]
  rfl
theorem wa_16 (hm : m < 8) (he : e < 200) : w32 (w32 (16 * (m : Int)) + (e : Int)) = ((16 * m + e : Nat) : Int) := by
  rw [w32_i (x := 16 * (m : Int)) (by omega) (by omega), w32_i (by omega) (by omega)]
  omega
theorem wa_32 (hm : m < 8) (he : e < 200) : w32 (w32 (32 * (m : Int)) + (e : Int)) = ((32 * m + e : Nat) : Int) := by
  rw [w32_i (x := 32 * (m : Int)) (by omega) (by omega), w32_i (by omega) (by omega)]
  omega
theorem wa_b (hm : m < 8) (he : e < 3000) : w32 (w32 (256 * (m : Int)) + (e : Int)) = ((256 * m + e : Nat) : Int) := by
  rw [w32_i (x := 256 * (m : Int)) (by omega) (by omega), w32_i (by omega) (by omega)]
  omega
theorem wa_256 (hm : m < 8) (he : e < 200) (hk : k < 200) : w32 (w32 (w32 (256 * (m : Int)) + w32 (16 * (e : Int))) + (k : Int)) = ((256 * m + 16 * e + k : Nat) : Int) := by
  rw [w32_i (x := 256 * (m : Int)) (by omega) (by omega), w32_i (x := 16 * (e : Int)) (by omega) (by omega), w32_i (x := 256 * (m : Int) + 16 * (e : Int)) (by omega) (by omega), w32_i (by omega) (by omega)]
  omega
theorem wa_64 (hm : m < 8) (he : e < 200) (hk : k < 200) : w32 (w32 (w32 (w32 (32 * (m : Int)) + (e : Int)) * 64) + (k : Int)) = (((32 * m + e) * 64 + k : Nat) : Int) := by
  rw [w32_i (x := 32 * (m : Int)) (by omega) (by omega), w32_i (x := 32 * (m : Int) + (e : Int)) (by omega) (by omega), w32_i (x := (32 * (m : Int) + (e : Int)) * 64) (by omega) (by omega), w32_i (by omega) (by omega)]
  omega
theorem wa_k (hk : k < 3000) (n : Nat) (hn : n < 100) : w32 ((k : Int) + (n : Int)) = ((k + n : Nat) : Int) := by
  rw [w32_i (by omega) (by omega)]
  omega
theorem L411v (hm : m < 8) (hc : e < 32) (h8 : 0 ≤ gI σ 98 m ∧ gI σ 98 m ≤ 64) : RR (lkB tb411) (B411_226, [some (mR (some 80)), some (mI (m : Int)), some (mL F), none, some (mI (e : Int)), none, none], [], σ) = some (some (mI 0), puS σ m e) := by
  obtain ⟨N, hN⟩ : ∃ N : Nat, N = (gI σ 98 m).toNat := ⟨_, rfl⟩
  have eN : gI σ 98 m = (N : Int) := by omega
  have b0 : 0 ≤ (m : Int) ∧ (m : Int) < 8 := by omega
  unfold puS
  rw [← hN]
  have key : ∀ (f j : Nat), j + f = N → RR (lkB tb411) (B411_229, [some (mR (some 80)), some (mI (m : Int)), some (mL F), none, some (mI (e : Int)), some (mI (j : Int)), none], [], wzS σ 100 ((32 * m + e) * 64) (lsB σ 111 j)) = some (some (mI 0), wzS σ 100 ((32 * m + e) * 64) (lsB σ 111 N)) := by
    intro f
    induction f with
    | zero =>
      intro j z
      have z : j = N := by omega
      subst z
      have g8 : gI (wzS σ 100 ((32 * m + e) * 64) (lsB σ 111 j)) 98 m = (j : Int) := by
        rw [wzS_g, if_neg (by omega)]
        exact eN
      rw [e411_229]
      simp only [Option.getD_some, Option.bind_some, Option.toList_some, Option.toList_none, List.cons_append, List.nil_append, and_self, and_true, true_and, false_and, and_false, ite_self, not_true_eq_false, not_false_eq_true, reduceIte, Nat.reduceEqDiff, ab_I, ab_L, ab_R, ao_I, ao_L, ao_R, gL_sL, gI_sI, gR_sR, gI_sL, gI_sR, gL_sI, gL_sR, gR_sI, gR_sL, g_98, b0.1, b0.2, Int.toNat_natCast, g8, Int.le_refl, if_true]
    | succ f ih =>
      intro j z
      have b1 : 0 ≤ (j : Int) ∧ (j : Int) < 64 := by omega
      have lj : j < 200 := by omega
      have nl : ¬ (N : Int) ≤ (j : Int) := by omega
      have g8 : gI (wzS σ 100 ((32 * m + e) * 64) (lsB σ 111 j)) 98 m = (N : Int) := by
        rw [wzS_g, if_neg (by omega)]
        exact eN
      have g1 : gI (wzS σ 100 ((32 * m + e) * 64) (lsB σ 111 j)) 111 j = gI σ 111 j := by
        rw [wzS_g, if_neg (by omega)]
      have b2 : 0 ≤ (((32 * m + e) * 64 + j : Nat) : Int) ∧ (((32 * m + e) * 64 + j : Nat) : Int) < 16384 := by omega
      have ww : w32 ((j : Int) + 1) = ((j + 1 : Nat) : Int) := w32_s (by omega)
      have wp : w32 (w32 (w32 (w32 (32 * (m : Int)) + (e : Int)) * 64) + (j : Int)) = (((32 * m + e) * 64 + j : Nat) : Int) := wa_64 hm (Nat.lt_trans hc (by decide)) lj
      have z := ih (j + 1) (by omega)
      rw [lsB_s, wzS_s, lsB_n] at z
      rw [e411_229]
      simp only [Option.getD_some, Option.bind_some, Option.toList_some, Option.toList_none, List.cons_append, List.nil_append, and_self, and_true, true_and, false_and, and_false, ite_self, not_true_eq_false, not_false_eq_true, reduceIte, Nat.reduceEqDiff, ab_I, ab_L, ab_R, ao_I, ao_L, ao_R, gL_sL, gI_sI, gR_sR, gI_sL, gI_sR, gL_sI, gL_sR, gR_sI, gR_sL, g_98, g_111, g_100, b0.1, b0.2, b1.1, b1.2, b2.1, b2.2, wp, Int.toNat_natCast, g8, g1, nl, if_false, if_true, ww]
      exact z
  rw [e411_226]
  exact key N 0 (by omega)
theorem neS_8 : gI (neS σ m e) 98 m = gI σ 98 m := by
  unfold neS
  rw [gI_sI, if_neg (by omega), gI_sI, if_neg (by omega), wzS_g, if_neg (by omega), gI_sI, if_neg (by omega)]
theorem L411k (hm : m < 8) (hc : e < 32) (h7 : 0 ≤ gI σ 97 m ∧ gI σ 97 m ≤ 16) (h1 : 0 ≤ gI σ 101 m ∧ gI σ 101 m < 16) (h8 : 0 ≤ gI σ 98 m ∧ gI σ 98 m ≤ 64) : RR (lkB tb411) (B411_159, [some (mR (some 80)), some (mI (m : Int)), some (mL F), none, some (mI (e : Int)), some (mI (gI σ 101 m)), some (mI 0)], [], sI σ 104 (32 * m + e) 1) = some (some (mI 0), puS (neS σ m e) m e) := by
  obtain ⟨N, hN⟩ : ∃ N : Nat, N = (gI σ 97 m).toNat := ⟨_, rfl⟩
  obtain ⟨C, hC⟩ : ∃ N : Nat, N = (gI σ 101 m).toNat := ⟨_, rfl⟩
  have eN : gI σ 97 m = (N : Int) := by omega
  have eC : gI σ 101 m = (C : Int) := by omega
  have b0 : 0 ≤ (m : Int) ∧ (m : Int) < 8 := by omega
  have lC : C < 200 := by omega
  have lC1 : (C : Int) + 1 < 2147483648 := by omega
  have lC0 : -2147483648 ≤ (C : Int) + 1 := by omega
  obtain ⟨υ, hυ⟩ : ∃ υ, υ = sI σ 104 (32 * m + e) 1 := ⟨_, rfl⟩
  have key : ∀ (f j : Nat), j + f = N → RR (lkB tb411) (B411_159, [some (mR (some 80)), some (mI (m : Int)), some (mL F), none, some (mI (e : Int)), some (mI (C : Int)), some (mI (j : Int))], [], wzS υ 102 (256 * m + 16 * C) (lsB σ 110 j)) = some (some (mI 0), puS (neS σ m e) m e) := by
    intro f
    induction f with
    | zero =>
      intro j z
      have z : j = N := by omega
      subst z
      have g7 : gI (wzS υ 102 (256 * m + 16 * C) (lsB σ 110 j)) 97 m = (j : Int) := by
        rw [wzS_g, if_neg (by omega), hυ, gI_sI, if_neg (by omega)]
        exact eN
      have b2 : 0 ≤ ((16 * m + C : Nat) : Int) ∧ ((16 * m + C : Nat) : Int) < 128 := by omega
      have wp : w32 (w32 (16 * (m : Int)) + (C : Int)) = ((16 * m + C : Nat) : Int) := wa_16 hm (by omega)
      have g1 : gI (wzS υ 102 (256 * m + 16 * C) (lsB σ 110 j)) 101 m = (C : Int) := by
        rw [wzS_g, if_neg (by omega), hυ, gI_sI, if_neg (by omega)]
        exact eC
      have ww : w32 ((C : Int) + 1) = ((C : Int) + 1) := w32_i lC0 lC1
      have ne : sI (sI (wzS υ 102 (256 * m + 16 * C) (lsB σ 110 j)) 103 (16 * m + C) (e : Int)) 101 m ((C : Int) + 1) = neS σ m e := by
        unfold neS
        rw [← hC, ← hN, ← hυ, eC]
      have t := L411v (F := F) (σ := neS σ m e) hm hc (by rw [neS_8]; exact h8)
      have t := RR_q (ls' := [some (mR (some 80)), some (mI (m : Int)), some (mL F), none, some (mI (e : Int)), some (mI (C : Int)), some (mI (j : Int))]) t (by repeat (first | exact lq_nil | refine lq_cons (Or.inr rfl) ?_ | refine lq_cons (Or.inl rfl) ?_))
      rw [e411_159]
      simp only [Option.getD_some, Option.bind_some, Option.toList_some, Option.toList_none, List.cons_append, List.nil_append, and_self, and_true, true_and, false_and, and_false, ite_self, not_true_eq_false, not_false_eq_true, reduceIte, Nat.reduceEqDiff, ab_I, ab_L, ab_R, ao_I, ao_L, ao_R, gL_sL, gI_sI, gR_sR, gI_sL, gI_sR, gL_sI, gL_sR, gR_sI, gR_sL, g_97, g_101, g_103, b0.1, b0.2, b2.1, b2.2, Int.toNat_natCast, g7, Int.le_refl, if_true, wp]
      rw [g1, ww, ne]
      exact t
    | succ f ih =>
      intro j z
      have b1 : 0 ≤ (j : Int) ∧ (j : Int) < 16 := by omega
      have lj : j < 200 := by omega
      have nl : ¬ (N : Int) ≤ (j : Int) := by omega
      have g7 : gI (wzS υ 102 (256 * m + 16 * C) (lsB σ 110 j)) 97 m = (N : Int) := by
        rw [wzS_g, if_neg (by omega), hυ, gI_sI, if_neg (by omega)]
        exact eN
      have g1 : gI (wzS υ 102 (256 * m + 16 * C) (lsB σ 110 j)) 110 j = gI σ 110 j := by
        rw [wzS_g, if_neg (by omega), hυ, gI_sI, if_neg (by omega)]
      have b2 : 0 ≤ ((256 * m + 16 * C + j : Nat) : Int) ∧ ((256 * m + 16 * C + j : Nat) : Int) < 2048 := by omega
      have ww : w32 ((j : Int) + 1) = ((j + 1 : Nat) : Int) := w32_s (by omega)
      have wp : w32 (w32 (w32 (256 * (m : Int)) + w32 (16 * (C : Int))) + (j : Int)) = ((256 * m + 16 * C + j : Nat) : Int) := wa_256 hm lC lj
      have z := ih (j + 1) (by omega)
      rw [lsB_s, wzS_s, lsB_n] at z
      rw [e411_159]
      simp only [Option.getD_some, Option.bind_some, Option.toList_some, Option.toList_none, List.cons_append, List.nil_append, and_self, and_true, true_and, false_and, and_false, ite_self, not_true_eq_false, not_false_eq_true, reduceIte, Nat.reduceEqDiff, ab_I, ab_L, ab_R, ao_I, ao_L, ao_R, gL_sL, gI_sI, gR_sR, gI_sL, gI_sR, gL_sI, gL_sR, gR_sI, gR_sL, g_97, g_110, g_102, b0.1, b0.2, b1.1, b1.2, b2.1, b2.2, wp, Int.toNat_natCast, g7, g1, nl, if_false, if_true, ww]
      exact z
  rw [eC, ← hυ]
  exact key N 0 (by omega)
theorem L411f (hm : m < 8) (h7 : 0 ≤ gI σ 97 m ∧ gI σ 97 m ≤ 16) (h1 : 0 ≤ gI σ 101 m ∧ gI σ 101 m < 16) (h8 : 0 ≤ gI σ 98 m ∧ gI σ 98 m ≤ 64) : ∀ (f j : Nat), j + f = 32 → RR (lkB tb411) (B411_97, [some (mR (some 80)), some (mI (m : Int)), some (mL F), none, some (mI (j : Int)), none, none], [], σ) = (match (List.range' j f).find? fun c => decide (gI σ 104 (32 * m + c) = 0) with
    | none => some (some (mI (-12)), σ)
    | some c => some (some (mI 0), puS (neS σ m c) m c)) := by
  have b0 : 0 ≤ (m : Int) ∧ (m : Int) < 8 := by omega
  intro f
  induction f with
  | zero =>
    intro j z
    have z : j = 32 := by omega
    subst z
    rw [e411_97]
    simp only [show (32 : Int) ≤ ((32 : Nat) : Int) by decide, show ¬ ¬ ((32 : Nat) : Int) = 32 by decide, if_true, if_false]
    rfl
  | succ f ih =>
    intro j z
    have nl : ¬ 32 ≤ (j : Int) := by omega
    have b2 : 0 ≤ ((32 * m + j : Nat) : Int) ∧ ((32 * m + j : Nat) : Int) < 256 := by omega
    have n32 : ¬ (j : Int) = 32 := by omega
    have wp : w32 (w32 (32 * (m : Int)) + (j : Int)) = ((32 * m + j : Nat) : Int) := wa_32 hm (by omega)
    have ww : w32 ((j : Int) + 1) = ((j + 1 : Nat) : Int) := w32_s (by omega)
    rw [List.range'_succ, List.find?_cons]
    by_cases q : gI σ 104 (32 * m + j) = 0
    · rw [decide_eq_true q]
      have t := L411k (e := j) (F := F) hm (by omega) h7 h1 h8
      have e1 : gI (sI σ 104 (32 * m + j) (1 % 2)) 101 m = gI σ 101 m := by rw [gI_sI, if_neg (by omega)]
      rw [e411_97]
      simp only [Option.getD_some, Option.bind_some, Option.toList_some, Option.toList_none, List.cons_append, List.nil_append, and_self, and_true, true_and, false_and, and_false, ite_self, not_true_eq_false, not_false_eq_true, reduceIte, Nat.reduceEqDiff, ab_I, ab_L, ab_R, ao_I, ao_L, ao_R, gL_sL, gI_sI, gR_sR, gI_sL, gI_sR, gL_sI, gL_sR, gR_sI, gR_sL, g_104, g_101, b0.1, b0.2, b2.1, b2.2, wp, Int.toNat_natCast, nl, n32, q, if_false, if_true, not_false_eq_true]
      exact t
    · rw [decide_eq_false q]
      rw [e411_97]
      simp only [Option.getD_some, Option.bind_some, Option.toList_some, Option.toList_none, List.cons_append, List.nil_append, and_self, and_true, true_and, false_and, and_false, ite_self, not_true_eq_false, not_false_eq_true, reduceIte, Nat.reduceEqDiff, ab_I, ab_L, ab_R, ao_I, ao_L, ao_R, gL_sL, gI_sI, gR_sR, gI_sL, gI_sR, gL_sI, gL_sR, gR_sI, gR_sL, g_104, b2.1, b2.2, wp, Int.toNat_natCast, nl, q, if_false, if_true, ww]
      exact ih (j + 1) (by omega)
theorem T411 (hm : m < 8) (h7 : 0 ≤ gI σ 97 m ∧ gI σ 97 m ≤ 16) (h8 : 0 ≤ gI σ 98 m ∧ gI σ 98 m ≤ 64) (h9 : 0 ≤ gI σ 99 m ∧ gI σ 99 m ≤ 16) (h1 : 0 ≤ gI σ 101 m ∧ gI σ 101 m ≤ gI σ 99 m) (hc : fnS σ m < 32) : MM 411 [mR (some 80), mI (m : Int), mL x] σ = some (some (mI (upM σ m x).2), (upM σ m x).1) := by
  have b0 : 0 ≤ (m : Int) ∧ (m : Int) < 8 := by omega
  have t := T410 hm h7 (by omega) h9
  have i2 : (iL 2).toInt = 2 := by decide
  have i0 : (BitVec.ofNat 64 0).toInt = 0 := by decide
  unfold upM
  by_cases c1 : x.toInt < 0 ∨ 2 < x.toInt
  · rw [if_pos c1]
    rcases c1 with c1 | c1
    · simp only [M411, e411_0, i0, c1, if_true]
    · have n1 : ¬ x.toInt < 0 := by omega
      have n2 : ¬ x.toInt ≤ 2 := by omega
      simp only [M411, e411_0, i0, i2, n1, n2, if_false]
  · rw [if_neg c1]
    have n1 : ¬ x.toInt < 0 := by omega
    have n2 : x.toInt ≤ 2 := by omega
    have ex : ∀ k : Int, 0 ≤ k → k ≤ 2 → ((x = iL k) = (x.toInt = k)) := fun k k0 k2 => by
      refine propext ⟨fun z => ?_, fun z => ?_⟩
      · rw [z]
        show (BitVec.ofInt 64 k).toInt = k
        rw [BitVec.toInt_ofInt, Int.bmod_eq_of_le (by omega) (by omega)]
      · rw [← z]
        exact BitVec.ofInt_toInt.symm
    have x1 : (x = BitVec.ofNat 64 1) = (x.toInt = 1) := ex 1 (by decide) (by decide)
    have x2 : (x = iL 2) = (x.toInt = 2) := ex 2 (by decide) (by decide)
    by_cases c2 : 0 ≤ fnS σ m
    · rw [if_pos c2]
      obtain ⟨C, hC⟩ : ∃ C : Nat, C = (fnS σ m).toNat := ⟨_, rfl⟩
      have eC : fnS σ m = (C : Int) := by omega
      rw [eC] at t c2
      have n0 : ¬ (C : Int) < 0 := by omega
      have s41 : RR (lkB tb411) (B411_0, [some (mR (some 80)), some (mI (m : Int)), some (mL x), none, none, none, none], [], σ) = RR (lkB tb411) (B411_41, [some (mR (some 80)), some (mI (m : Int)), some (mL x), none, some (mI (C : Int)), none, none], [], σ) := by
        by_cases k0 : gI σ 96 m = 0
        · simp only [e411_0, e411_22, Option.getD_some, Option.bind_some, Option.toList_some, Option.toList_none, List.cons_append, List.nil_append, and_self, and_true, true_and, false_and, and_false, ite_self, not_true_eq_false, not_false_eq_true, reduceIte, Nat.reduceEqDiff, ab_I, ab_L, ab_R, ao_I, ao_L, ao_R, gL_sL, gI_sI, gR_sR, gI_sL, gI_sR, gL_sI, gL_sR, gR_sI, gR_sL, i0, i2, n1, n2, if_false, if_true, t, g_96, b0.1, b0.2, Int.toNat_natCast, k0, not_true_eq_false, c2]
        · simp only [e411_0, e411_22, Option.getD_some, Option.bind_some, Option.toList_some, Option.toList_none, List.cons_append, List.nil_append, and_self, and_true, true_and, false_and, and_false, ite_self, not_true_eq_false, not_false_eq_true, reduceIte, Nat.reduceEqDiff, ab_I, ab_L, ab_R, ao_I, ao_L, ao_R, gL_sL, gI_sI, gR_sR, gI_sL, gI_sR, gL_sI, gL_sR, gR_sI, gR_sL, i0, i2, n1, n2, if_false, if_true, t, g_96, b0.1, b0.2, Int.toNat_natCast, k0, not_false_eq_true]
      rw [M411, s41, e411_41, if_neg n0, ← hC]
      by_cases c3 : x.toInt = 1
      · rw [if_pos c3, if_neg (not_not_intro (x1.mpr c3))]
      · rw [if_neg c3, if_pos (fun z => c3 (x1.mp z)), e411_55, if_pos c2, e411_71, if_pos c2]
        exact L411v hm (by omega) h8
    · rw [if_neg c2]
      have n0 : fnS σ m < 0 := by omega
      by_cases k0 : gI σ 96 m = 0
      · rw [if_pos k0]
        simp only [M411, e411_0, e411_22, Option.getD_some, Option.bind_some, Option.toList_some, Option.toList_none, List.cons_append, List.nil_append, and_self, and_true, true_and, false_and, and_false, ite_self, not_true_eq_false, not_false_eq_true, reduceIte, Nat.reduceEqDiff, ab_I, ab_L, ab_R, ao_I, ao_L, ao_R, gL_sL, gI_sI, gR_sR, gI_sL, gI_sR, gL_sI, gL_sR, gR_sI, gR_sL, i0, i2, n1, n2, if_false, if_true, t, g_96, b0.1, b0.2, Int.toNat_natCast, k0, not_true_eq_false, c2]
      · rw [if_neg k0]
        have s55 : RR (lkB tb411) (B411_0, [some (mR (some 80)), some (mI (m : Int)), some (mL x), none, none, none, none], [], σ) = RR (lkB tb411) (B411_55, [some (mR (some 80)), some (mI (m : Int)), some (mL x), none, some (mI (fnS σ m)), none, none], [], σ) := by
          simp only [e411_0, e411_22, Option.getD_some, Option.bind_some, Option.toList_some, Option.toList_none, List.cons_append, List.nil_append, and_self, and_true, true_and, false_and, and_false, ite_self, not_true_eq_false, not_false_eq_true, reduceIte, Nat.reduceEqDiff, ab_I, ab_L, ab_R, ao_I, ao_L, ao_R, gL_sL, gI_sI, gR_sR, gI_sL, gI_sR, gL_sI, gL_sR, gR_sI, gR_sL, i0, i2, n1, n2, if_false, if_true, t, g_96, b0.1, b0.2, Int.toNat_natCast, k0, not_false_eq_true]
          rw [e411_41, if_pos n0]
        rw [M411, s55, e411_55, if_neg c2]
        by_cases c4 : x.toInt = 2
        · rw [if_pos c4, if_neg (not_not_intro (x2.mpr c4))]
        · rw [if_neg c4, if_pos (fun z => c4 (x2.mp z)), e411_71, if_neg c2]
          by_cases c5 : gI σ 101 m = gI σ 99 m
          · rw [if_pos c5]
            simp only [Option.getD_some, Option.bind_some, Option.toList_some, Option.toList_none, List.cons_append, List.nil_append, and_self, and_true, true_and, false_and, and_false, ite_self, not_true_eq_false, not_false_eq_true, reduceIte, Nat.reduceEqDiff, ab_I, ab_L, ab_R, ao_I, ao_L, ao_R, gL_sL, gI_sI, gR_sR, gI_sL, gI_sR, gL_sI, gL_sR, gR_sI, gR_sL, g_101, g_99, b0.1, b0.2, Int.toNat_natCast, c5, not_true_eq_false, if_false]
          · rw [if_neg c5]
            simp only [Option.getD_some, Option.bind_some, Option.toList_some, Option.toList_none, List.cons_append, List.nil_append, and_self, and_true, true_and, false_and, and_false, ite_self, not_true_eq_false, not_false_eq_true, reduceIte, Nat.reduceEqDiff, ab_I, ab_L, ab_R, ao_I, ao_L, ao_R, gL_sL, gI_sI, gR_sR, gI_sL, gI_sR, gL_sI, gL_sR, gR_sI, gR_sL, g_101, g_99, b0.1, b0.2, Int.toNat_natCast, c5, not_false_eq_true, if_true]
            have z := L411f (F := x) hm h7 (by omega) h8 32 0 (by omega)
            rw [← List.range_eq_range'] at z
            have z : _ = (match frS σ m with
              | none => some (some (mI (-12)), σ)
              | some c => some (some (mI 0), puS (neS σ m c) m c)) := z
            refine Eq.trans z ?_
            cases frS σ m with
            | none => rfl
            | some c => rfl
/-! REMOVE -/
theorem L412b {N e3 : Nat} {e4 : Int} (hm : m < 8) (hN : N < 16) : ∀ (f j : Nat) (ρ : MS), j + f = 16 * N → gI ρ 101 m = (N : Int) → ∃ τ, RR (lkB tb412) (B412_124, [some (mR (some 80)), some (mI (m : Int)), some (mI (e : Int)), some (mI e4), some (mI (j : Int))], [], ρ) = some (some (mI 0), τ) ∧ τ.2 = ρ.2 ∧ ∀ k s, gI τ k s = if k = 102 ∧ 256 * m + j ≤ s ∧ s < 256 * m + 16 * N then w8 (gI ρ 102 (s + 16)) else gI ρ k s := by
  have b0 : 0 ≤ (m : Int) ∧ (m : Int) < 8 := by omega
  have w16 : w32 (16 * (N : Int)) = ((16 * N : Nat) : Int) := by
    rw [w32_i (by omega) (by omega)]
    omega
  intro f
  induction f with
  | zero =>
    intro j ρ z h
    have z : j = 16 * N := by omega
    subst z
    refine ⟨ρ, ?_, rfl, fun k s => (if_neg (by omega)).symm⟩
    rw [e412_124]
    simp only [Option.getD_some, Option.bind_some, Option.toList_some, Option.toList_none, List.cons_append, List.nil_append, and_self, and_true, true_and, false_and, and_false, ite_self, not_true_eq_false, not_false_eq_true, reduceIte, Nat.reduceEqDiff, ab_I, ab_L, ab_R, ao_I, ao_L, ao_R, gL_sL, gI_sI, gR_sR, gI_sL, gI_sR, gL_sI, gL_sR, gR_sI, gR_sL, g_101, b0.1, b0.2, Int.toNat_natCast, h, w16, Int.le_refl, if_true]
  | succ f ih =>
    intro j ρ z h
    have nl : ¬ ((16 * N : Nat) : Int) ≤ (j : Int) := by omega
    have b1 : 0 ≤ ((256 * m + j : Nat) : Int) ∧ ((256 * m + j : Nat) : Int) < 2048 := by omega
    have b2 : 0 ≤ ((256 * m + j + 16 : Nat) : Int) ∧ ((256 * m + j + 16 : Nat) : Int) < 2048 := by omega
    have ww : w32 ((j : Int) + 1) = ((j + 1 : Nat) : Int) := w32_s (by omega)
    have wp : w32 (w32 (256 * (m : Int)) + (j : Int)) = ((256 * m + j : Nat) : Int) := wa_b hm (by omega)
    have wq : w32 (((256 * m + j : Nat) : Int) + 16) = ((256 * m + j + 16 : Nat) : Int) := wa_k (by omega) 16 (by decide)
    obtain ⟨τ, t1, t2, t3⟩ := ih (j + 1) (sI ρ 102 (256 * m + j) (w8 (gI ρ 102 (256 * m + j + 16)))) (by omega) (by rw [gI_sI, if_neg (by omega)]; exact h)
    refine ⟨τ, ?_, t2, fun k s => ?_⟩
    · rw [e412_124]
      simp only [Option.getD_some, Option.bind_some, Option.toList_some, Option.toList_none, List.cons_append, List.nil_append, and_self, and_true, true_and, false_and, and_false, ite_self, not_true_eq_false, not_false_eq_true, reduceIte, Nat.reduceEqDiff, ab_I, ab_L, ab_R, ao_I, ao_L, ao_R, gL_sL, gI_sI, gR_sR, gI_sL, gI_sR, gL_sI, gL_sR, gR_sI, gR_sL, g_101, g_102, b0.1, b0.2, b1.1, b1.2, b2.1, b2.2, wp, wq, Int.toNat_natCast, h, w16, nl, if_false, if_true, ww]
      exact t1
    · rw [t3]
      by_cases q : k = 102 ∧ 256 * m + j ≤ s ∧ s < 256 * m + 16 * N
      · rw [if_pos q]
        by_cases q2 : s = 256 * m + j
        · rw [if_neg (by omega), gI_sI, if_pos ⟨q.1, q2⟩, q2]
        · rw [if_pos (by omega), gI_sI, if_neg (by omega)]
      · rw [if_neg q, if_neg (by omega), gI_sI, if_neg (by omega)]
theorem L412a {N : Nat} {e4 : Int} (hm : m < 8) (hN : N < 16) (he : e ≤ N) : ∀ (f j : Nat) (ρ : MS), j + f = N → gI ρ 101 m = (N : Int) → ∃ τ, RR (lkB tb412) (B412_75, [some (mR (some 80)), some (mI (m : Int)), some (mI (e : Int)), some (mI e4), some (mI (j : Int))], [], ρ) = some (some (mI 0), τ) ∧ τ.2 = ρ.2 ∧ ∀ k s, gI τ k s = if k = 102 ∧ 256 * m + 16 * e ≤ s ∧ s < 256 * m + 16 * N then w8 (gI ρ 102 (s + 16)) else if k = 103 ∧ 16 * m + j ≤ s ∧ s < 16 * m + N then gI ρ 103 (s + 1) else gI ρ k s := by
  have b0 : 0 ≤ (m : Int) ∧ (m : Int) < 8 := by omega
  have w16 : w32 (16 * (e : Int)) = ((16 * e : Nat) : Int) := by
    rw [w32_i (by omega) (by omega)]
    omega
  intro f
  induction f with
  | zero =>
    intro j ρ z h
    have z : j = N := by omega
    subst z
    obtain ⟨τ, t1, t2, t3⟩ := L412b (e := e) (e3 := 0) (e4 := e4) hm hN (16 * j - 16 * e) (16 * e) ρ (by omega) h
    refine ⟨τ, ?_, t2, fun k s => ?_⟩
    · rw [e412_75]
      simp only [Option.getD_some, Option.bind_some, Option.toList_some, Option.toList_none, List.cons_append, List.nil_append, and_self, and_true, true_and, false_and, and_false, ite_self, not_true_eq_false, not_false_eq_true, reduceIte, Nat.reduceEqDiff, ab_I, ab_L, ab_R, ao_I, ao_L, ao_R, gL_sL, gI_sI, gR_sR, gI_sL, gI_sR, gL_sI, gL_sR, gR_sI, gR_sL, g_101, b0.1, b0.2, Int.toNat_natCast, h, w16, Int.le_refl, if_true]
      exact t1
    · rw [t3]
      refine congrArg (fun z => if k = 102 ∧ 256 * m + 16 * e ≤ s ∧ s < 256 * m + 16 * j then w8 (gI ρ 102 (s + 16)) else z) ?_
      rw [if_neg (by omega)]
  | succ f ih =>
    intro j ρ z h
    have nl : ¬ (N : Int) ≤ (j : Int) := by omega
    have b1 : 0 ≤ ((16 * m + j : Nat) : Int) ∧ ((16 * m + j : Nat) : Int) < 128 := by omega
    have b2 : 0 ≤ ((16 * m + j + 1 : Nat) : Int) ∧ ((16 * m + j + 1 : Nat) : Int) < 128 := by omega
    have ww : w32 ((j : Int) + 1) = ((j + 1 : Nat) : Int) := w32_s (by omega)
    have wp : w32 (w32 (16 * (m : Int)) + (j : Int)) = ((16 * m + j : Nat) : Int) := wa_16 hm (by omega)
    have wq : w32 (((16 * m + j : Nat) : Int) + 1) = ((16 * m + j + 1 : Nat) : Int) := w32_s (by omega)
    obtain ⟨τ, t1, t2, t3⟩ := ih (j + 1) (sI ρ 103 (16 * m + j) (gI ρ 103 (16 * m + j + 1))) (by omega) (by rw [gI_sI, if_neg (by omega)]; exact h)
    refine ⟨τ, ?_, t2, fun k s => ?_⟩
    · rw [e412_75]
      simp only [Option.getD_some, Option.bind_some, Option.toList_some, Option.toList_none, List.cons_append, List.nil_append, and_self, and_true, true_and, false_and, and_false, ite_self, not_true_eq_false, not_false_eq_true, reduceIte, Nat.reduceEqDiff, ab_I, ab_L, ab_R, ao_I, ao_L, ao_R, gL_sL, gI_sI, gR_sR, gI_sL, gI_sR, gL_sI, gL_sR, gR_sI, gR_sL, g_101, g_103, b0.1, b0.2, b1.1, b1.2, b2.1, b2.2, wp, wq, Int.toNat_natCast, h, nl, if_false, if_true, ww]
      exact t1
    · rw [t3]
      by_cases q : k = 102 ∧ 256 * m + 16 * e ≤ s ∧ s < 256 * m + 16 * N
      · rw [if_pos q, if_pos q, gI_sI, if_neg (by omega)]
      · rw [if_neg q, if_neg q]
        by_cases q1 : k = 103 ∧ 16 * m + j ≤ s ∧ s < 16 * m + N
        · rw [if_pos q1]
          by_cases q2 : s = 16 * m + j
          · rw [if_neg (by omega), gI_sI, if_pos ⟨q1.1, q2⟩, q2]
          · rw [if_pos (by omega), gI_sI, if_neg (by omega)]
        · rw [if_neg q1, if_neg (by omega), gI_sI, if_neg (by omega)]
/-- the state with one entry less, before the others move up -/
def rm1 (σ : MS) (m e : Nat) : MS := sI (sI (sI σ 104 (32 * m + (gI σ 103 (16 * m + e)).toNat) (gI σ 80 54 % 2)) 105 (32 * m + (gI σ 103 (16 * m + e)).toNat) (gI σ 80 54 % 2)) 101 m (gI σ 101 m - 1)
theorem T412 (hm : m < 8) (h7 : 0 ≤ gI σ 97 m ∧ gI σ 97 m ≤ 16) (h1 : 0 ≤ gI σ 101 m ∧ gI σ 101 m ≤ 16) (h3 : ∀ e : Nat, (e : Int) < gI σ 101 m → 0 ≤ gI σ 103 (16 * m + e) ∧ gI σ 103 (16 * m + e) < 32) : ∃ τ, MM 412 [mR (some 80), mI (m : Int)] σ = some (some (mI (if gI σ 96 m = 0 then -22 else match etS σ m with
    | none => -2
    | some _ => 0)), τ) ∧ (gI σ 96 m = 0 → τ = σ) ∧ (¬ gI σ 96 m = 0 → match etS σ m with
    | none => τ = σ
    | some e => τ.2 = σ.2 ∧ ∀ k s, gI τ k s = if k = 102 ∧ 256 * m + 16 * e ≤ s ∧ s < 256 * m + 16 * (gI σ 101 m - 1).toNat then w8 (gI σ 102 (s + 16)) else if k = 103 ∧ 16 * m + e ≤ s ∧ s < 16 * m + (gI σ 101 m - 1).toNat then gI σ 103 (s + 1) else gI (rm1 σ m e) k s) := by
  have b0 : 0 ≤ (m : Int) ∧ (m : Int) < 8 := by omega
  by_cases k0 : gI σ 96 m = 0
  · refine ⟨σ, ?_, fun _ => rfl, fun z => absurd k0 z⟩
    rw [if_pos k0]
    simp only [M412, e412_0, Option.getD_some, Option.bind_some, Option.toList_some, Option.toList_none, List.cons_append, List.nil_append, and_self, and_true, true_and, false_and, and_false, ite_self, not_true_eq_false, not_false_eq_true, reduceIte, Nat.reduceEqDiff, ab_I, ab_L, ab_R, ao_I, ao_L, ao_R, gL_sL, gI_sI, gR_sR, gI_sL, gI_sR, gL_sI, gL_sR, gR_sI, gR_sL, g_96, b0.1, b0.2, Int.toNat_natCast, k0, not_true_eq_false, if_false]
  · have t := T408 hm h7 h1
    cases q : etS σ m with
    | none =>
      rw [q] at t
      have t : MM 408 [mR (some 80), mI (m : Int)] σ = some (some (mI (-1)), σ) := t
      refine ⟨σ, ?_, fun z => absurd z k0, fun _ => rfl⟩
      rw [if_neg k0]
      simp only [M412, e412_0, e412_17, Option.getD_some, Option.bind_some, Option.toList_some, Option.toList_none, List.cons_append, List.nil_append, and_self, and_true, true_and, false_and, and_false, ite_self, not_true_eq_false, not_false_eq_true, reduceIte, Nat.reduceEqDiff, ab_I, ab_L, ab_R, ao_I, ao_L, ao_R, gL_sL, gI_sI, gR_sR, gI_sL, gI_sR, gL_sI, gL_sR, gR_sI, gR_sL, g_96, b0.1, b0.2, Int.toNat_natCast, k0, not_false_eq_true, if_true, t, show ¬ (0 : Int) ≤ -1 by decide, if_false]
    | some e =>
      rw [q] at t
      have le := etS_l q
      have t : MM 408 [mR (some 80), mI (m : Int)] σ = some (some (mI (e : Int)), σ) := t
      have c3 := h3 e (by omega)
      obtain ⟨C, hC⟩ : ∃ C : Nat, C = (gI σ 103 (16 * m + e)).toNat := ⟨_, rfl⟩
      have eC : gI σ 103 (16 * m + e) = (C : Int) := by omega
      obtain ⟨N, hN⟩ : ∃ N : Nat, N = (gI σ 101 m - 1).toNat := ⟨_, rfl⟩
      have eN : gI σ 101 m - 1 = (N : Int) := by omega
      have lN : N < 16 := by omega
      have leN' : e ≤ N := by omega
      have eNe : e + (N - e) = N := by omega
      have lN1 : (N : Int) < 2147483648 := by omega
      have lN0 : -2147483648 ≤ (N : Int) := by omega
      have b2 : 0 ≤ ((16 * m + e : Nat) : Int) ∧ ((16 * m + e : Nat) : Int) < 128 := by omega
      have b4 : 0 ≤ ((32 * m + C : Nat) : Int) ∧ ((32 * m + C : Nat) : Int) < 256 := by omega
      have b3 : 0 ≤ (e : Int) := by omega
      have wp : w32 (w32 (16 * (m : Int)) + (e : Int)) = ((16 * m + e : Nat) : Int) := wa_16 hm (by omega)
      have wq : w32 (w32 (32 * (m : Int)) + (C : Int)) = ((32 * m + C : Nat) : Int) := wa_32 hm (by omega)
      have wN : w32 (gI σ 101 m - 1) = (N : Int) := by
        rw [eN]
        exact w32_i lN0 lN1
      have er : rm1 σ m e = sI (sI (sI σ 104 (32 * m + C) (gI σ 80 54 % 2)) 105 (32 * m + C) (gI σ 80 54 % 2)) 101 m (N : Int) := by
        unfold rm1
        rw [← hC, eN]
      have g101 : gI (rm1 σ m e) 101 m = (N : Int) := by rw [er, gI_sI, if_pos ⟨rfl, rfl⟩]
      obtain ⟨τ, t1, t2, t3⟩ := L412a (e := e) (e4 := ((32 * m + C : Nat) : Int)) hm lN leN' (N - e) e (rm1 σ m e) eNe g101
      refine ⟨τ, ?_, fun z => absurd z k0, fun _ => ⟨?_, fun k s => ?_⟩⟩
      · rw [if_neg k0]
        have p1 : gI (sI σ 104 (32 * m + C) (gI σ 80 54 % 2)) 80 54 = gI σ 80 54 := by rw [gI_sI, if_neg (by omega)]
        have p2 : gI (sI (sI σ 104 (32 * m + C) (gI σ 80 54 % 2)) 105 (32 * m + C) (gI σ 80 54 % 2)) 101 m = gI σ 101 m := by rw [gI_sI, if_neg (by omega), gI_sI, if_neg (by omega)]
        rw [M412, e412_0]
        simp only [Option.getD_some, Option.bind_some, Option.toList_some, Option.toList_none, List.cons_append, List.nil_append, and_self, and_true, true_and, false_and, and_false, ite_self, not_true_eq_false, not_false_eq_true, reduceIte, Nat.reduceEqDiff, ab_I, ab_L, ab_R, ao_I, ao_L, ao_R, gL_sL, gI_sI, gR_sR, gI_sL, gI_sR, gL_sI, gL_sR, gR_sI, gR_sL, g_96, b0.1, b0.2, Int.toNat_natCast, k0, not_false_eq_true, if_true, t]
        rw [e412_17]
        simp only [Option.getD_some, Option.bind_some, Option.toList_some, Option.toList_none, List.cons_append, List.nil_append, and_self, and_true, true_and, false_and, and_false, ite_self, not_true_eq_false, not_false_eq_true, reduceIte, Nat.reduceEqDiff, ab_I, ab_L, ab_R, ao_I, ao_L, ao_R, gL_sL, gI_sI, gR_sR, gI_sL, gI_sR, gL_sI, gL_sR, gR_sI, gR_sL, g_103, g_104, g_105, g_101, b0.1, b0.2, b2.1, b2.2, b4.1, b4.2, b3, wp, eC, wq, Int.toNat_natCast, if_true, p1, p2, wN]
        rw [e412_72, ← er]
        exact t1
      · rw [t2, er]
        rfl
      · rw [t3, ← hN]
        by_cases q1 : k = 102 ∧ 256 * m + 16 * e ≤ s ∧ s < 256 * m + 16 * N
        · rw [if_pos q1, if_pos q1, er, gI_sI, if_neg (by omega), gI_sI, if_neg (by omega), gI_sI, if_neg (by omega)]
        · rw [if_neg q1, if_neg q1]
          by_cases q2 : k = 103 ∧ 16 * m + e ≤ s ∧ s < 16 * m + N
          · rw [if_pos q2, if_pos q2, er, gI_sI, if_neg (by omega), gI_sI, if_neg (by omega), gI_sI, if_neg (by omega)]
          · rw [if_neg q2, if_neg q2]
end RUPD
