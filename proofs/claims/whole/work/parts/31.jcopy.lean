/-! ===== stretches of rows that are copied ===== -/
def rkI (σ : MS) (c a b n : Nat) : MS := ((fun k s => if k = c ∧ b ≤ s ∧ s < b + n then σ.1 c (s - b + a) else σ.1 k s), σ.2)
def rkV (σ : MS) (a b n : Nat) : MS := ((fun k s => if (118 ≤ k ∧ k ≤ 122) ∧ b ≤ s ∧ s < b + n then σ.1 k (s - b + a) else σ.1 k s), (fun k s => if (112 ≤ k ∧ k ≤ 117) ∧ b ≤ s ∧ s < b + n then σ.2.1 k (s - b + a) else σ.2.1 k s), σ.2.2)
section RG2
variable {σ : MS} {c a b n k s i : Nat}
theorem gI_rkI : gI (rkI σ c a b n) k s = if k = c ∧ b ≤ s ∧ s < b + n then gI σ c (s - b + a) else gI σ k s := rfl
theorem gL_rkI : gL (rkI σ c a b n) k s = gL σ k s := rfl
theorem gI_rkI_o (h : ¬ k = c) : gI (rkI σ c a b n) k s = gI σ k s := if_neg fun q => h q.1
theorem kd_rkI : kd (rkI σ c a b n) k = kd σ k := rfl
theorem rkI_0 : rkI σ c a b 0 = σ := by
  refine ms_ext (fun k s => ?_) (fun k s => rfl) rfl
  rw [gI_rkI, if_neg (by omega)]
theorem rkI_s (h : a + n < b ∨ b ≤ a) : sI (rkI σ c a b n) c (b + n) (gI (rkI σ c a b n) c (a + n)) = rkI σ c a b (n + 1) := by
  refine ms_ext (fun k s => ?_) (fun k s => rfl) rfl
  rw [gI_sI, gI_rkI, gI_rkI, gI_rkI]
  by_cases e : k = c ∧ s = b + n
  · rw [if_pos e, if_neg (by omega), if_pos (by omega), show s - b + a = a + n by omega]
  · rw [if_neg e]
    by_cases e2 : k = c ∧ b ≤ s ∧ s < b + n
    · rw [if_pos e2, if_pos (by omega)]
    · rw [if_neg e2, if_neg (by omega)]
theorem gI_rkV : gI (rkV σ a b n) k s = if (118 ≤ k ∧ k ≤ 122) ∧ b ≤ s ∧ s < b + n then gI σ k (s - b + a) else gI σ k s := rfl
theorem gL_rkV : gL (rkV σ a b n) k s = if (112 ≤ k ∧ k ≤ 117) ∧ b ≤ s ∧ s < b + n then gL σ k (s - b + a) else gL σ k s := rfl
theorem gI_rkV_o (h : ¬ (118 ≤ k ∧ k ≤ 122)) : gI (rkV σ a b n) k s = gI σ k s := if_neg fun q => h q.1
theorem gL_rkV_o (h : ¬ (112 ≤ k ∧ k ≤ 117)) : gL (rkV σ a b n) k s = gL σ k s := if_neg fun q => h q.1
theorem kd_rkV : kd (rkV σ a b n) k = kd σ k := rfl
theorem aV_rkV : aV (rkV σ a b n) i = if b ≤ i ∧ i < b + n then aV σ (i - b + a) else aV σ i := by
  unfold aV rNv
  rw [gI_rkV, gI_rkV, gI_rkV, gI_rkV, gI_rkV, gL_rkV, gL_rkV, gL_rkV, gL_rkV, gL_rkV, gL_rkV]
  by_cases h : b ≤ i ∧ i < b + n
  · rw [if_pos h]
    rw [if_pos ⟨by decide, h⟩, if_pos ⟨by decide, h⟩, if_pos ⟨by decide, h⟩, if_pos ⟨by decide, h⟩, if_pos ⟨by decide, h⟩, if_pos ⟨by decide, h⟩, if_pos ⟨by decide, h⟩, if_pos ⟨by decide, h⟩, if_pos ⟨by decide, h⟩, if_pos ⟨by decide, h⟩, if_pos ⟨by decide, h⟩]
  · rw [if_neg h]
    rw [if_neg (fun q => h q.2), if_neg (fun q => h q.2), if_neg (fun q => h q.2), if_neg (fun q => h q.2), if_neg (fun q => h q.2), if_neg (fun q => h q.2), if_neg (fun q => h q.2), if_neg (fun q => h q.2), if_neg (fun q => h q.2), if_neg (fun q => h q.2), if_neg (fun q => h q.2)]
theorem rkV_0 : rkV σ a b 0 = σ := by
  refine ms_ext (fun k s => ?_) (fun k s => ?_) rfl
  · rw [gI_rkV, if_neg (by omega)]
  · rw [gL_rkV, if_neg (by omega)]
theorem rkV_s (h : a + n < b ∨ b ≤ a) : wrV (rkV σ a b n) (b + n) (aV (rkV σ a b n) (a + n)) = rkV σ a b (n + 1) := by
  have e0 : aV (rkV σ a b n) (a + n) = aV σ (a + n) := by rw [aV_rkV, if_neg (by omega)]
  rw [e0]
  refine ms_ext (fun k s => ?_) (fun k s => ?_) rfl
  · by_cases e : s = b + n
    · subst e
      by_cases hk : 118 ≤ k ∧ k ≤ 122
      · have r : gI (rkV σ a b (n + 1)) k (b + n) = gI σ k (a + n) := by rw [gI_rkV, if_pos ⟨hk, by omega, by omega⟩, show b + n - b + a = a + n by omega]
        rw [r]
        have : k = 118 ∨ k = 119 ∨ k = 120 ∨ k = 121 ∨ k = 122 := by omega
        rcases this with rfl | rfl | rfl | rfl | rfl
        all_goals (simp only [gI_wrV, Nat.reduceEqDiff, false_and, and_self, if_false, if_true])
        all_goals rfl
      · rw [gI_wrV_o hk, gI_rkV, if_neg (fun q => hk q.1), gI_rkV, if_neg (fun q => hk q.1)]
    · rw [gI_wrV_s e, gI_rkV, gI_rkV]
      by_cases e2 : (118 ≤ k ∧ k ≤ 122) ∧ b ≤ s ∧ s < b + n
      · rw [if_pos e2, if_pos (by omega)]
      · rw [if_neg e2, if_neg (by omega)]
  · by_cases e : s = b + n
    · subst e
      by_cases hk : 112 ≤ k ∧ k ≤ 117
      · have r : gL (rkV σ a b (n + 1)) k (b + n) = gL σ k (a + n) := by rw [gL_rkV, if_pos ⟨hk, by omega, by omega⟩, show b + n - b + a = a + n by omega]
        rw [r]
        have : k = 112 ∨ k = 113 ∨ k = 114 ∨ k = 115 ∨ k = 116 ∨ k = 117 := by omega
        rcases this with rfl | rfl | rfl | rfl | rfl | rfl
        all_goals (simp only [gL_wrV, Nat.reduceEqDiff, false_and, and_self, if_false, if_true])
        all_goals rfl
      · rw [gL_wrV_o hk, gL_rkV, if_neg (fun q => hk q.1), gL_rkV, if_neg (fun q => hk q.1)]
    · rw [gL_wrV_s e, gL_rkV, gL_rkV]
      by_cases e2 : (112 ≤ k ∧ k ≤ 117) ∧ b ≤ s ∧ s < b + n
      · rw [if_pos e2, if_pos (by omega)]
      · rw [if_neg e2, if_neg (by omega)]
end RG2
/-- a state of the judge's rows copied to another's place -/
def cpS (σ : MS) (x y : Nat) : MS :=
  rkV (rkI (rkI (sI (sI σ 123 y (gI σ 123 x)) 125 y (gI σ 125 x)) 124 (4 * x) (4 * y) 4) 126 (64 * x) (64 * y) (gI σ 125 x).toNat) (104 * x) (104 * y) (26 * (gI σ 123 x).toNat)
theorem T468 {x y : Nat} {σ : MS} (hx : x < 314) (hy : y < 314) (hxy : ¬ x = y) (hF : 0 ≤ gI σ 123 x ∧ gI σ 123 x ≤ 4) (hH : 0 ≤ gI σ 125 x ∧ gI σ 125 x ≤ 64) (hk : ∀ i, i < 26 * (gI σ 123 x).toNat → -128 ≤ vk (aV σ (104 * x + i)) ∧ vk (aV σ (104 * x + i)) < 128) : MM 468 [mR (some 80), mI x, mI y] σ = some (none, cpS σ x y) := by
  have h99 : ∀ (m : Nat) (τ : MS), gI τ 123 x = gI σ 123 x → (∀ i, i < 26 * (gI σ 123 x).toNat → aV τ (104 * x + i) = aV σ (104 * x + i)) → m ≤ 26 * (gI σ 123 x).toNat → RR (lkB tb468) (B468_99, [some (mR (some 80)), some (mI x), some (mI y), some (mI ((26 * (gI σ 123 x).toNat - m : Nat) : Int))], [], rkV τ (104 * x) (104 * y) (26 * (gI σ 123 x).toNat - m)) = some (none, rkV τ (104 * x) (104 * y) (26 * (gI σ 123 x).toNat)) := by
    intro m τ e1 e2
    induction m with
    | zero =>
      intro _
      rw [e468_99]
      simp only [g_123]
      rw [if_pos ⟨by omega, by omega⟩, gI_rkV_o (by omega), Int.toNat_natCast, e1, w32_i (by omega) (by omega), if_pos (by omega)]
      rfl
    | succ m ih =>
      intro hm
      rw [e468_99]
      simp only [g_123]
      rw [if_pos ⟨by omega, by omega⟩, gI_rkV_o (by omega), Int.toNat_natCast, e1, w32_i (by omega) (by omega), if_neg (by omega)]
      have ea : w32 (w32 (104 * (x : Int)) + ((26 * (gI σ 123 x).toNat - (m + 1) : Nat) : Int)) = ((104 * x + (26 * (gI σ 123 x).toNat - (m + 1)) : Nat) : Int) := by
        rw [w32_i (x := 104 * (x : Int)) (by omega) (by omega), w32_i (by omega) (by omega)]; omega
      have eb : w32 (w32 (104 * (y : Int)) + ((26 * (gI σ 123 x).toNat - (m + 1) : Nat) : Int)) = ((104 * y + (26 * (gI σ 123 x).toNat - (m + 1)) : Nat) : Int) := by
        rw [w32_i (x := 104 * (y : Int)) (by omega) (by omega), w32_i (by omega) (by omega)]; omega
      have ev : aV (rkV τ (104 * x) (104 * y) (26 * (gI σ 123 x).toNat - (m + 1))) (104 * x + (26 * (gI σ 123 x).toNat - (m + 1))) = aV σ (104 * x + (26 * (gI σ 123 x).toNat - (m + 1))) := by
        rw [aV_rkV, if_neg (by omega), e2 _ (by omega)]
      have hkk := hk (26 * (gI σ 123 x).toNat - (m + 1)) (by omega)
      rw [ea, eb, T430 ⟨by omega, by omega⟩ ⟨by omega, by omega⟩ (by rw [Int.toNat_natCast, ev]; exact hkk)]
      simp only [Option.bind_some, Option.toList_none, List.nil_append, e468_128, Int.toNat_natCast]
      rw [rkV_s (by omega), w32_i (by omega) (by omega)]
      have e3 : ((26 * (gI σ 123 x).toNat - (m + 1) : Nat) : Int) + 1 = ((26 * (gI σ 123 x).toNat - m : Nat) : Int) := by omega
      have e4 : 26 * (gI σ 123 x).toNat - (m + 1) + 1 = 26 * (gI σ 123 x).toNat - m := by omega
      rw [e3, e4]
      exact ih (by omega)
  have h59 : ∀ (m : Nat) (τ : MS), gI τ 125 x = gI σ 125 x → m ≤ (gI σ 125 x).toNat → RR (lkB tb468) (B468_59, [some (mR (some 80)), some (mI x), some (mI y), some (mI (((gI σ 125 x).toNat - m : Nat) : Int))], [], rkI τ 126 (64 * x) (64 * y) ((gI σ 125 x).toNat - m)) = RR (lkB tb468) (B468_99, [some (mR (some 80)), some (mI x), some (mI y), some (mI 0)], [], rkI τ 126 (64 * x) (64 * y) (gI σ 125 x).toNat) := by
    intro m τ e1
    induction m with
    | zero =>
      intro _
      rw [e468_59]
      simp only [g_125]
      rw [if_pos ⟨by omega, by omega⟩, gI_rkI_o (by omega), Int.toNat_natCast, e1, if_pos (by omega)]
      rfl
    | succ m ih =>
      intro hm
      have ea : w32 (w32 (64 * (x : Int)) + (((gI σ 125 x).toNat - (m + 1) : Nat) : Int)) = ((64 * x + ((gI σ 125 x).toNat - (m + 1)) : Nat) : Int) := by
        rw [w32_i (x := 64 * (x : Int)) (by omega) (by omega), w32_i (by omega) (by omega)]; omega
      have eb : w32 (w32 (64 * (y : Int)) + (((gI σ 125 x).toNat - (m + 1) : Nat) : Int)) = ((64 * y + ((gI σ 125 x).toNat - (m + 1)) : Nat) : Int) := by
        rw [w32_i (x := 64 * (y : Int)) (by omega) (by omega), w32_i (by omega) (by omega)]; omega
      rw [e468_59]
      simp only [g_125, g_126]
      rw [if_pos ⟨by omega, by omega⟩, gI_rkI_o (by omega), Int.toNat_natCast, e1, if_neg (by omega), ea, eb, if_pos ⟨by omega, by omega⟩, if_pos ⟨by omega, by omega⟩, Int.toNat_natCast, Int.toNat_natCast, rkI_s (by omega), w32_i (by omega) (by omega)]
      have e3 : (((gI σ 125 x).toNat - (m + 1) : Nat) : Int) + 1 = (((gI σ 125 x).toNat - m : Nat) : Int) := by omega
      have e4 : (gI σ 125 x).toNat - (m + 1) + 1 = (gI σ 125 x).toNat - m := by omega
      rw [e3, e4]
      exact ih (by omega)
  have h26 : ∀ (m : Nat) (τ : MS), m ≤ 4 → RR (lkB tb468) (B468_26, [some (mR (some 80)), some (mI x), some (mI y), some (mI ((4 - m : Nat) : Int))], [], rkI τ 124 (4 * x) (4 * y) (4 - m)) = RR (lkB tb468) (B468_59, [some (mR (some 80)), some (mI x), some (mI y), some (mI 0)], [], rkI τ 124 (4 * x) (4 * y) 4) := by
    intro m τ
    induction m with
    | zero =>
      intro _
      rw [e468_26, if_pos (by omega)]
    | succ m ih =>
      intro hm
      have ea : w32 (w32 (4 * (x : Int)) + ((4 - (m + 1) : Nat) : Int)) = ((4 * x + (4 - (m + 1)) : Nat) : Int) := by
        rw [w32_i (x := 4 * (x : Int)) (by omega) (by omega), w32_i (by omega) (by omega)]; omega
      have eb : w32 (w32 (4 * (y : Int)) + ((4 - (m + 1) : Nat) : Int)) = ((4 * y + (4 - (m + 1)) : Nat) : Int) := by
        rw [w32_i (x := 4 * (y : Int)) (by omega) (by omega), w32_i (by omega) (by omega)]; omega
      rw [e468_26, if_neg (by omega), ea, eb]
      simp only [g_124]
      rw [if_pos ⟨by omega, by omega⟩, if_pos ⟨by omega, by omega⟩, Int.toNat_natCast, Int.toNat_natCast, rkI_s (by omega), w32_i (by omega) (by omega)]
      have e3 : ((4 - (m + 1) : Nat) : Int) + 1 = ((4 - m : Nat) : Int) := by omega
      have e4 : 4 - (m + 1) + 1 = 4 - m := by omega
      rw [e3, e4]
      exact ih (by omega)
  rw [M468, e468_0]
  simp only [g_123, g_125]
  rw [if_pos ⟨by omega, by omega⟩, if_pos ⟨by omega, by omega⟩, if_pos ⟨by omega, by omega⟩, if_pos ⟨by omega, by omega⟩]
  simp only [Int.toNat_natCast]
  rw [show gI (sI σ 123 y (gI σ 123 x)) 125 x = gI σ 125 x by rw [gI_sI, if_neg (by omega)]]
  generalize hτ : sI (sI σ 123 y (gI σ 123 x)) 125 y (gI σ 125 x) = τ
  have t1 : gI τ 123 x = gI σ 123 x := by rw [← hτ, gI_sI, if_neg (by omega), gI_sI, if_neg (by omega)]
  have t2 : gI τ 125 x = gI σ 125 x := by rw [← hτ, gI_sI, if_neg (by omega), gI_sI, if_neg (by omega)]
  have t3 : ∀ i, aV τ i = aV σ i := fun i => by rw [← hτ, aV_sI (by omega), aV_sI (by omega)]
  have a1 := h26 4 τ (Nat.le_refl _)
  rw [show 4 - 4 = 0 from rfl, rkI_0] at a1
  rw [show (0 : Int) = ((0 : Nat) : Int) from rfl, a1]
  have a2 := h59 (gI σ 125 x).toNat (rkI τ 124 (4 * x) (4 * y) 4) (by rw [gI_rkI_o (by omega)]; exact t2) (Nat.le_refl _)
  rw [Nat.sub_self, rkI_0] at a2
  rw [show (0 : Int) = ((0 : Nat) : Int) from rfl, a2]
  have a3 := h99 (26 * (gI σ 123 x).toNat) (rkI (rkI τ 124 (4 * x) (4 * y) 4) 126 (64 * x) (64 * y) (gI σ 125 x).toNat) (by rw [gI_rkI_o (by omega), gI_rkI_o (by omega)]; exact t1) (fun i _ => by
    have : aV (rkI (rkI τ 124 (4 * x) (4 * y) 4) 126 (64 * x) (64 * y) (gI σ 125 x).toNat) (104 * x + i) = aV τ (104 * x + i) := by
      unfold aV
      rw [gI_rkI_o (by omega), gI_rkI_o (by omega), gI_rkI_o (by omega), gI_rkI_o (by omega), gI_rkI_o (by omega), gI_rkI_o (by omega), gI_rkI_o (by omega), gI_rkI_o (by omega), gI_rkI_o (by omega), gI_rkI_o (by omega)]
      rfl
    rw [this, t3]) (Nat.le_refl _)
  rw [Nat.sub_self, rkV_0] at a3
  rw [show (0 : Int) = ((0 : Nat) : Int) from rfl, a3]
  unfold cpS
  rw [hτ]
