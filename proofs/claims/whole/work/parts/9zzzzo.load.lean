/-! ===== load, on both sides ===== -/
/-- bytes of a cell -/
def tpW (σ : MS) (K p n : Nat) : List B64 := (List.range' p n).map fun i => byW (gI σ K i)
/-- word i of a tape -/
def wdW (t : Nat → Int) (i : Nat) : B64 := leN ((List.range' (8 * i) 8).map fun j => byW (t j))
section LOAD
variable {σ τ ρ : MS} {p n j k s X N i : Nat} {x y : Int}
theorem tpW_1 {K : Nat} : tpW σ K p (n + 1) = tpW σ K p n ++ [byW (gI σ K (p + n))] := by
  unfold tpW
  rw [List.range'_concat, List.map_append]
  simp
theorem tpW_o {x : Int} : tpW (sI σ 0 1 x) 1 p n = tpW σ 1 p n := by
  unfold tpW
  exact List.map_congr_left fun j _ => by rw [gI_sI, if_neg (by omega)]
theorem tpW_o81 {x : Int} : tpW (sI σ 80 1 x) 81 p n = tpW σ 81 p n := by
  unfold tpW
  exact List.map_congr_left fun j _ => by rw [gI_sI, if_neg (by omega)]
theorem tpW_w {K : Nat} {t : Nat → Int} (h : ∀ j, gI σ K j = t j) : leN (tpW σ K (8 * i) 8) = wdW t i := by
  unfold tpW wdW
  rw [List.map_congr_left (g := fun j => byW (t j)) (fun j _ => by rw [h])]
/-- a number of the tape -/
theorem T16t (h : p + n ≤ 4000) : MM 16 [mR (some 1), mI (p : Int), mI (n : Int)] σ = some (some (mL (leN (tpW σ 1 p n))), σ) := by
  have key : ∀ (j : Nat) (L : List B64), p + j ≤ 4000 → RR (lkB tb16) (B16_7, [some (mR (some 1)), some (mI (p : Int)), some (mI (n : Int)), some (mL (leN L)), none, some (mI ((j : Int) - 1))], [], σ) = some (some (mL (leN (tpW σ 1 p j ++ L))), σ) := by
    intro j
    induction j with
    | zero =>
      intro L _
      rw [e16_7, if_pos (by omega)]
      rfl
    | succ j ih =>
      intro L hj
      have ej : ((j + 1 : Nat) : Int) - 1 = (j : Int) := by omega
      have nl : ¬ (j : Int) < 0 := by omega
      have b2 : 0 ≤ ((p + j : Nat) : Int) ∧ ((p + j : Nat) : Int) < 4000 := by omega
      have s1 : -2147483648 ≤ (p : Int) + (j : Int) ∧ (p : Int) + (j : Int) < 2147483648 := by omega
      have s2 : -2147483648 ≤ (j : Int) + (-1) ∧ (j : Int) + (-1) < 2147483648 := by omega
      have e1 : (j : Int) + (-1) = (j : Int) - 1 := by omega
      have z := ih (byW (gI σ 1 (p + j)) :: L) (by omega)
      have e2 : lShl (leN L) 8 ||| iL (gI σ 1 (p + j) % 256) = leN (byW (gI σ 1 (p + j)) :: L) := rfl
      have wp : w32 ((p : Int) + (j : Int)) = ((p + j : Nat) : Int) := by
        rw [w32_i s1.1 s1.2]
        rfl
      have ww : w32 ((j : Int) + (-1)) = (j : Int) - 1 := by rw [w32_i s2.1 s2.2, e1]
      rw [ej, tpW_1, List.append_assoc, e16_7, if_neg nl]
      simp only [Option.getD_some, Option.bind_some, Option.toList_some, Option.toList_none, List.cons_append, List.nil_append, and_self, and_true, true_and, false_and, and_false, ite_self, not_true_eq_false, not_false_eq_true, reduceIte, Nat.reduceEqDiff, ab_I, ab_L, ab_R, ao_I, ao_L, ao_R, gL_sL, gI_sI, gR_sR, gI_sL, gI_sR, gL_sI, gL_sR, gR_sI, gR_sL, g_1, b2.1, b2.2, wp, Int.toNat_natCast, iAnd255, e2, ww]
      exact z
  have w1 : w32 ((n : Int) - 1) = (n : Int) - 1 := w32_i (by omega) (by omega)
  have z := key n [] h
  rw [List.append_nil] at z
  rw [M16, e16_0, w1]
  exact z
/-- the class's words -/
theorem L207 (hX : X < 8) (h200 : N ≤ 200) : ∀ (f j : Nat) (σ : MS), j + f = N → gR σ 6 X = some (7 + X) → ∃ τ, RR (lkB tb207) (B207_3, [some (mR (some 5)), some (mI (X : Int)), some (mR (some 1)), some (mI (N : Int)), some (mI (j : Int))], [], σ) = some (none, τ) ∧ τ.1 = (sI (sI (sI σ 15 X (N : Int)) 16 X 0) 17 X 0).1 ∧ τ.2.2 = σ.2.2 ∧ ∀ k s, gL τ k s = if k = 7 + X ∧ j ≤ s ∧ s < N then leN (tpW σ 1 (8 * s) 8) else gL σ k s := by
  intro f
  induction f with
  | zero =>
    intro j σ hj hs
    have ej : j = N := by omega
    subst ej
    refine ⟨sI (sI (sI σ 15 X (j : Int)) 16 X 0) 17 X 0, ?_, rfl, rfl, fun k s => ?_⟩
    · rw [e207_3, if_pos (Int.le_refl _), T208 hX]
      simp only [Option.bind_some, Option.toList_some, Option.toList_none, List.cons_append, List.nil_append]
      rw [e207_41]
    · rw [if_neg (by omega)]
      rfl
  | succ f ih =>
    intro j σ hj hs
    have k2 := cu_kd (σ := σ) X hX
    have e8 : w32 (8 * (j : Int)) = ((8 * j : Nat) : Int) := by
      rw [w32_i (by omega) (by omega)]
      omega
    have e1 : w32 ((j : Int) + 1) = ((j + 1 : Nat) : Int) := by
      rw [w32_i (by omega) (by omega)]
      omega
    have g1 : Option.isSome (some (7 + X)) = true ∧ ab σ 4 (Option.getD (some (7 + X)) 0) (j : Int) := by
      show Option.isSome (some (7 + X)) = true ∧ ab σ 4 (7 + X) (j : Int)
      rw [gdK k2]
      omega
    have t16 := T16t (σ := σ) (p := 8 * j) (n := 8) (by omega)
    rw [e207_3, if_neg (show ¬ (N : Int) ≤ (j : Int) by omega), if_pos (by rw [g_6]; omega), e8, Int.toNat_natCast, hs]
    rw [show (8 : Int) = ((8 : Nat) : Int) from rfl, t16]
    simp only [Option.bind_some, Option.toList_some, Option.toList_none, List.cons_append, List.nil_append]
    rw [e207_28, if_pos g1, Int.toNat_natCast, e1]
    obtain ⟨τ, t1, t2, t3, t4⟩ := ih (j + 1) (sL σ (7 + X) j (leN (tpW σ 1 (8 * j) 8))) (by omega) (by rw [gR_sL]; exact hs)
    refine ⟨τ, t1, t2, t3, fun k s => ?_⟩
    rw [t4]
    have et : ∀ s, tpW (sL σ (7 + X) j (leN (tpW σ 1 (8 * j) 8))) 1 (8 * s) 8 = tpW σ 1 (8 * s) 8 := fun s => rfl
    by_cases z : k = 7 + X ∧ j + 1 ≤ s ∧ s < N
    · rw [if_pos z, if_pos (show k = 7 + X ∧ j ≤ s ∧ s < N by omega), et]
    · rw [if_neg z, gL_sL]
      by_cases z1 : k = 7 + X ∧ s = j
      · rw [if_pos z1, if_pos (by omega), z1.2]
      · rw [if_neg z1, if_neg (by omega)]
def ldOk (n : Nat) : Prop := 8 ≤ n ∧ n ≤ 1600 ∧ n % 8 = 0
theorem tmod8n (n : Nat) : Int.tmod (n : Int) 8 = ((n % 8 : Nat) : Int) := tmod8 n
theorem T296n (h1 : gI σ 0 1 = (n : Int)) (hn : n ≤ 4000) (h : (x < 0 ∨ 8 ≤ x) ∨ ¬ ldOk n) : MM 296 [mR (some 0), mI x] σ = some (some (mI (-1)), sI σ 0 1 0) := by
  rw [M296, e296_0, T294]
  simp only [Option.bind_some, Option.toList_some, Option.toList_none, List.cons_append, List.nil_append]
  by_cases c : x < 0 ∨ 8 ≤ x
  · rw [e296_4, T205n c]
    simp only [Option.bind_some, Option.toList_some, Option.toList_none, List.cons_append, List.nil_append]
    rw [e296_9, if_pos rfl]
  · obtain ⟨X, rfl⟩ : ∃ X : Nat, x = (X : Int) := ⟨x.toNat, by omega⟩
    have nz : ¬ ldOk n := by
      rcases h with h | h
      · omega
      · exact h
    unfold ldOk at nz
    rw [e296_4, T205 (by omega)]
    simp only [Option.bind_some, Option.toList_some, Option.toList_none, List.cons_append, List.nil_append]
    rw [e296_9, if_neg n10, h1, tmod8n]
    by_cases c1 : (n : Int) < 8
    · rw [if_pos c1]
    · rw [if_neg c1]
      by_cases c2 : (1600 : Int) < (n : Int)
      · rw [if_pos c2]
      · rw [if_neg c2, if_neg (by omega)]
/-- load -/
theorem T296 (hX : X < 8) (hs : gR σ 6 X = some (7 + X)) (h1 : gI σ 0 1 = (n : Int)) (h : ldOk n) : ∃ τ, MM 296 [mR (some 0), mI (X : Int)] σ = some (some (mI ((n / 8 : Nat) : Int)), τ) ∧ τ.1 = (sI (sI (sI (sI σ 0 1 0) 15 X ((n / 8 : Nat) : Int)) 16 X 0) 17 X 0).1 ∧ τ.2.2 = σ.2.2 ∧ ∀ k s, gL τ k s = if k = 7 + X ∧ s < n / 8 then leN (tpW σ 1 (8 * s) 8) else gL σ k s := by
  unfold ldOk at h
  have e8 : w32 (Int.tdiv (n : Int) 8) = ((n / 8 : Nat) : Int) := by
    rw [tdiv8, w32_i (by omega) (by omega)]
  obtain ⟨τ, t1, t2, t3, t4⟩ := L207 (N := n / 8) hX (by omega) (n / 8) 0 (sI σ 0 1 0) (by omega) (by rw [gR_sI]; exact hs)
  rw [M296, e296_0, T294]
  simp only [Option.bind_some, Option.toList_some, Option.toList_none, List.cons_append, List.nil_append]
  rw [e296_4, T205 hX]
  simp only [Option.bind_some, Option.toList_some, Option.toList_none, List.cons_append, List.nil_append]
  rw [e296_9, if_neg n10, h1, tmod8n, if_neg (show ¬ (n : Int) < 8 by omega), if_neg (show ¬ (1600 : Int) < (n : Int) by omega), if_pos (by omega), e8]
  have m7 : MM 207 [mR (some 5), mI (X : Int), mR (some 1), mI ((n / 8 : Nat) : Int)] (sI σ 0 1 0) = some (none, τ) := by
    rw [M207, e207_0]
    exact t1
  rw [m7]
  simp only [Option.bind_some, Option.toList_some, Option.toList_none, List.cons_append, List.nil_append]
  rw [e296_50, e8]
  refine ⟨τ, rfl, t2, t3, fun k s => ?_⟩
  rw [t4]
  by_cases z : k = 7 + X ∧ s < n / 8
  · rw [if_pos z, if_pos (by omega), tpW_o]
  · rw [if_neg z, if_neg (by omega)]
    rfl
/-! the reference -/
theorem L346i (hi : i < 200) {x1 x2 : Int} {v5 : Option MV} : ∀ (j : Nat) (L : List B64), j ≤ 8 → RR (lkB tb346) (B346_51, [some (mR (some 80)), some (mI x1), some (mI x2), some (mI (i : Int)), some (mL (leN L)), none, some (mI ((j : Int) - 1))], [], σ) = RR (lkB tb346) (B346_51, [some (mR (some 80)), some (mI x1), some (mI x2), some (mI (i : Int)), some (mL (leN (tpW σ 81 (8 * i) j ++ L))), none, some (mI (-1))], [], σ) := by
  intro j
  induction j with
  | zero =>
    intro L _
    rfl
  | succ j ih =>
    intro L hj
    have ej : ((j + 1 : Nat) : Int) - 1 = (j : Int) := by omega
    have z := ih (byW (gI σ 81 (8 * i + j)) :: L) (by omega)
    have e1 : w32 (w32 (8 * (i : Int)) + (j : Int)) = ((8 * i + j : Nat) : Int) := by
      rw [w32_i (x := 8 * (i : Int)) (by omega) (by omega), w32_i (by omega) (by omega)]
      omega
    have e2 : w32 ((j : Int) + (-1)) = (j : Int) - 1 := by
      rw [w32_i (by omega) (by omega)]
      omega
    have e3 : lShl (leN L) 8 ||| (iL (gI σ 81 (8 * i + j)) &&& iL 255) = leN (byW (gI σ 81 (8 * i + j)) :: L) := by
      rw [iAn255]
      show lShl (leN L) 8 ||| _ = (leN L <<< 8) ||| byW (gI σ 81 (8 * i + j))
      have e4 : BitVec.ofNat 64 (gI σ 81 (8 * i + j) % 256).toNat = byW (gI σ 81 (8 * i + j)) := by
        unfold byW
        rw [← BitVec.ofInt_natCast, Int.toNat_of_nonneg (by omega)]
      rw [e4]
      rfl
    rw [ej, tpW_1, List.append_assoc, e346_51, if_neg (by omega), e1, if_pos (by rw [g_81]; omega), Int.toNat_natCast, e2, e3]
    exact z
theorem L346 (hX : X < 8) (h1600 : n ≤ 1600) : ∀ (f j : Nat) (σ : MS), j + f = n / 8 → ∃ τ, RR (lkB tb346) (B346_36, [some (mR (some 80)), some (mI (X : Int)), some (mI (n : Int)), some (mI (j : Int)), none, none, none], [], σ) = some (some (mI ((n / 8 : Nat) : Int)), τ) ∧ τ.1 = (sI (sI σ 84 X ((n / 8 : Nat) : Int)) 85 X 0).1 ∧ τ.2.2 = σ.2.2 ∧ ∀ k s, gL τ k s = if k = 83 ∧ 200 * X + j ≤ s ∧ s < 200 * X + n / 8 then leN (tpW σ 81 (8 * (s - 200 * X)) 8) else gL σ k s := by
  have e8 : w32 (Int.tdiv (n : Int) 8) = ((n / 8 : Nat) : Int) := by
    rw [tdiv8, w32_i (by omega) (by omega)]
  intro f
  induction f with
  | zero =>
    intro j σ hj
    have ej : j = n / 8 := by omega
    subst ej
    refine ⟨sI (sI σ 84 X ((n / 8 : Nat) : Int)) 85 X 0, ?_, rfl, rfl, fun k s => ?_⟩
    · rw [e346_36, e8, if_pos (Int.le_refl _), if_pos (by rw [g_84]; omega), if_pos (by rw [g_85]; omega), Int.toNat_natCast]
      rfl
    · rw [if_neg (by omega)]
      rfl
  | succ f ih =>
    intro j σ hj
    have ew : w32 (w32 (200 * (X : Int)) + (j : Int)) = ((200 * X + j : Nat) : Int) := by
      rw [w32_i (x := 200 * (X : Int)) (by omega) (by omega), w32_i (by omega) (by omega)]
      omega
    have e1 : w32 ((j : Int) + 1) = ((j + 1 : Nat) : Int) := by
      rw [w32_i (by omega) (by omega)]
      omega
    have z := L346i (σ := σ) (i := j) (by omega) (x1 := (X : Int)) (x2 := (n : Int)) (v5 := none) 8 [] (Nat.le_refl _)
    rw [List.append_nil] at z
    rw [e346_36, e8, if_neg (show ¬ ((n / 8 : Nat) : Int) ≤ (j : Int) by omega)]
    have z' : RR (lkB tb346) (B346_51, [some (mR (some 80)), some (mI (X : Int)), some (mI (n : Int)), some (mI (j : Int)), some (mL (BitVec.ofNat 64 0)), none, some (mI 7)], [], σ) = _ := z
    rw [z', e346_51, if_pos (by decide), ew, if_pos (by rw [g_83]; omega), Int.toNat_natCast, e1]
    obtain ⟨τ, t1, t2, t3, t4⟩ := ih (j + 1) (sL σ 83 (200 * X + j) (leN (tpW σ 81 (8 * j) 8))) (by omega)
    refine ⟨τ, RR_q t1 (by repeat (first | exact lq_nil | refine lq_cons (Or.inr rfl) ?_ | refine lq_cons (Or.inl rfl) ?_)), t2, t3, fun k s => ?_⟩
    rw [t4]
    have et : ∀ s, tpW (sL σ 83 (200 * X + j) (leN (tpW σ 81 (8 * j) 8))) 81 (8 * s) 8 = tpW σ 81 (8 * s) 8 := fun s => rfl
    by_cases z : k = 83 ∧ 200 * X + (j + 1) ≤ s ∧ s < 200 * X + n / 8
    · rw [if_pos z, if_pos (by omega), et]
    · rw [if_neg z, gL_sL]
      by_cases z1 : k = 83 ∧ s = 200 * X + j
      · rw [if_pos z1, if_pos (by omega), z1.2, show 200 * X + j - 200 * X = j by omega]
      · rw [if_neg z1, if_neg (by omega)]
theorem T331n (h : x < 0 ∨ 8 ≤ x) : MM 331 [mI x] σ = some (some (mI 0), σ) := by
  rw [M331, e331_0]
  by_cases c : x < 0
  · rw [if_pos c, e331_14]
  · rw [if_neg c, if_pos (by omega), e331_14]
theorem T346n (h1 : gI σ 80 1 = (n : Int)) (hn : n ≤ 4000) (h : (x < 0 ∨ 8 ≤ x) ∨ ¬ ldOk n) : MM 346 [mR (some 80), mI x] σ = some (some (mI (-1)), sI σ 80 1 0) := by
  rw [M346, e346_0, T330]
  simp only [Option.bind_some, Option.toList_some, Option.toList_none, List.cons_append, List.nil_append]
  by_cases c : x < 0 ∨ 8 ≤ x
  · rw [e346_4, T331n c]
    simp only [Option.bind_some, Option.toList_some, Option.toList_none, List.cons_append, List.nil_append]
    rw [e346_9, if_pos rfl]
  · obtain ⟨X, rfl⟩ : ∃ X : Nat, x = (X : Int) := ⟨x.toNat, by omega⟩
    have nz : ¬ ldOk n := by
      rcases h with h | h
      · omega
      · exact h
    unfold ldOk at nz
    rw [e346_4, T331 (by omega)]
    simp only [Option.bind_some, Option.toList_some, Option.toList_none, List.cons_append, List.nil_append]
    rw [e346_9, if_neg n10, h1, tmod8n]
    by_cases c1 : (n : Int) < 8
    · rw [if_pos c1]
    · rw [if_neg c1]
      by_cases c2 : (1600 : Int) < (n : Int)
      · rw [if_pos c2]
      · rw [if_neg c2, if_neg (by omega)]
theorem T346 (hX : X < 8) (h1 : gI σ 80 1 = (n : Int)) (h : ldOk n) : ∃ τ, MM 346 [mR (some 80), mI (X : Int)] σ = some (some (mI ((n / 8 : Nat) : Int)), τ) ∧ τ.1 = (sI (sI (sI σ 80 1 0) 84 X ((n / 8 : Nat) : Int)) 85 X 0).1 ∧ τ.2.2 = σ.2.2 ∧ ∀ k s, gL τ k s = if k = 83 ∧ 200 * X ≤ s ∧ s < 200 * X + n / 8 then leN (tpW σ 81 (8 * (s - 200 * X)) 8) else gL σ k s := by
  unfold ldOk at h
  obtain ⟨τ, t1, t2, t3, t4⟩ := L346 (n := n) hX (by omega) (n / 8) 0 (sI σ 80 1 0) (by omega)
  rw [M346, e346_0, T330]
  simp only [Option.bind_some, Option.toList_some, Option.toList_none, List.cons_append, List.nil_append]
  rw [e346_4, T331 hX]
  simp only [Option.bind_some, Option.toList_some, Option.toList_none, List.cons_append, List.nil_append]
  rw [e346_9, if_neg n10, h1, tmod8n, if_neg (show ¬ (n : Int) < 8 by omega), if_neg (show ¬ (1600 : Int) < (n : Int) by omega), if_pos (by omega)]
  refine ⟨τ, t1, t2, t3, fun k s => ?_⟩
  rw [t4]
  by_cases z : k = 83 ∧ 200 * X ≤ s ∧ s < 200 * X + n / 8
  · rw [if_pos z, if_pos (by omega), tpW_o81]
  · rw [if_neg z, if_neg (by omega)]
    rfl
end LOAD
