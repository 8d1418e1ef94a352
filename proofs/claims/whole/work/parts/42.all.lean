/-! ===== the reference's judge: all VALUES of a state ===== -/
def apS (σ : MS) (g : VL → VL) : Nat → MS
  | 0 => σ
  | n + 1 => wrV (apS σ g n) n (g (aV (apS σ g n) n))
section AP
variable {σ : MS} {g : VL → VL} {n i k s : Nat} {S : ST}
theorem ap_V : ∀ n : Nat, aV (apS σ g n) i = if i < n then g (aV σ i) else aV σ i := by
  intro n
  induction n with
  | zero => rw [if_neg (by omega)]; rfl
  | succ n ih =>
    show aV (wrV (apS σ g n) n (g (aV (apS σ g n) n))) i = _
    rw [aV_wrV]
    by_cases e : i = n
    · subst e
      rw [if_pos rfl, if_pos (by omega), ih, if_neg (by omega)]
    · rw [if_neg e, ih]
      by_cases l : i < n
      · rw [if_pos l, if_pos (by omega)]
      · rw [if_neg l, if_neg (by omega)]
theorem ap_I (h : ¬ ((118 ≤ k ∧ k ≤ 122) ∧ s < n)) : gI (apS σ g n) k s = gI σ k s := by
  induction n with
  | zero => rfl
  | succ n ih =>
    show gI (wrV (apS σ g n) n (g (aV (apS σ g n) n))) k s = _
    by_cases e : s = n
    · rw [gI_wrV_o (by omega)]
      exact ih (by omega)
    · rw [gI_wrV_s e]
      exact ih (by omega)
theorem ap_L (h : ¬ ((112 ≤ k ∧ k ≤ 117) ∧ s < n)) : gL (apS σ g n) k s = gL σ k s := by
  induction n with
  | zero => rfl
  | succ n ih =>
    show gL (wrV (apS σ g n) n (g (aV (apS σ g n) n))) k s = _
    by_cases e : s = n
    · rw [gL_wrV_o (by omega)]
      exact ih (by omega)
    · rw [gL_wrV_s e]
      exact ih (by omega)
theorem ap_r : ∀ n : Nat, (apS σ g n).2.2 = σ.2.2
  | 0 => rfl
  | n + 1 => ap_r n
theorem ap_jq (h : n ≤ 104) : jq (apS σ g n) σ := ⟨fun k s p => ap_I (by omega), fun k s p => ap_L (by omega), ap_r n⟩
theorem ap_J0 (hF : sF S ≤ 4) (j : J0 σ S) : J0 (apS σ g (26 * sF S)) (allV S g) := by
  obtain ⟨j1, j2, j3, j4, j5⟩ := j
  refine ⟨(ap_I (by omega)).trans j1, fun k hk => ?_, fun f f1 f2 => (ap_I (by omega)).trans (j3 f f1 f2), (ap_I (by omega)).trans j4, fun m hm => (ap_I (by omega)).trans (j5 m hm)⟩
  have hk : k < 26 * sF S := hk
  rw [show 104 * 0 + k = k by omega, ap_V, if_pos hk]
  have := j2 k hk
  rw [show 104 * 0 + k = k by omega] at this
  rw [this]
  show _ = if k < 26 * sF S then g (sV S k) else sV S k
  rw [if_pos hk]
theorem ap_s {m N : Nat} (h : m < N) : apS σ g (N - m) = wrV (apS σ g (N - (m + 1))) (N - (m + 1)) (g (aV (apS σ g (N - (m + 1))) (N - (m + 1)))) := by
  rw [show N - m = (N - (m + 1)) + 1 by omega]
  rfl
end AP
section LP
variable {σ : MS} {t n : Int} {F : Nat}
theorem T522 (h : gI σ 123 0 = (F : Int)) (hF : F ≤ 4) : MM 522 [mR (some 80), mI t, mI n] σ = some (none, apS σ (rchV t n) (26 * F)) := by
  have key : ∀ m : Nat, m ≤ 26 * F → RR (lkB tb522) (B522_2, [some (mR (some 80)), some (mI t), some (mI n), some (mI ((26 * F - m : Nat) : Int))], [], apS σ (rchV t n) (26 * F - m)) = some (none, apS σ (rchV t n) (26 * F)) := by
    intro m
    induction m with
    | zero =>
      intro _
      have g : gI (apS σ (rchV t n) (26 * F - 0)) 123 0 = (F : Int) := (ap_I (by omega)).trans h
      rw [e522_2]
      simp only [g_123]
      rw [if_pos ⟨by omega, by omega⟩, show (0 : Int).toNat = 0 from rfl, g, w32_i (by omega) (by omega), if_pos (by omega)]
      rfl
    | succ m ih =>
      intro hm
      have ih := ih (by omega)
      have e3 : w32 (((26 * F - (m + 1) : Nat) : Int) + 1) = ((26 * F - m : Nat) : Int) := by
        rw [w32_i (by omega) (by omega)]
        omega
      rw [ap_s (by omega)] at ih
      have g : gI (apS σ (rchV t n) (26 * F - (m + 1))) 123 0 = (F : Int) := (ap_I (by omega)).trans h
      have hi : inB ((26 * F - (m + 1) : Nat) : Int) := ⟨by omega, by omega⟩
      generalize ek : 26 * F - (m + 1) = k at *
      generalize eρ : apS σ (rchV t n) k = ρ at *
      have i1 := hi.1
      have i2 := hi.2
      have nl : ¬ ((26 * F : Nat) : Int) ≤ (k : Int) := by omega
      have e26 : w32 (26 * (F : Int)) = ((26 * F : Nat) : Int) := by rw [w32_i (by omega) (by omega)]; omega
      by_cases c : vk (aV ρ k) = 7 ∧ vt (aV ρ k) = t ∧ vr (aV ρ k) < n
      · have e : rchV t n (aV ρ k) = vR (aV ρ k) n := if_pos c
        rw [e] at ih
        obtain ⟨c1, c2, c3⟩ := c
        have c1' : gI ρ 118 k = 7 := c1
        have c2' : gI ρ 121 k = t := c2
        have c3' : ¬ n ≤ gI ρ 122 k := by have : gI ρ 122 k = vr (aV ρ k) := rfl; omega
        rw [e522_2]
        simp only [e522_53, Option.getD_some, Option.bind_some, Option.toList_some, Option.toList_none, List.cons_append, List.nil_append, and_self, and_true, true_and, false_and, and_false, ite_self, not_true_eq_false, not_false_eq_true, reduceIte, Nat.reduceEqDiff, ab_I, ab_L, ab_R, ao_I, ao_L, ao_R, gL_sL, gI_sI, gR_sR, gI_sL, gI_sR, gL_sI, gL_sR, gR_sI, gR_sL, g_123, g_118, g_121, g_122, Int.reduceLT, Int.reduceLE, show (0 : Int).toNat = 0 from rfl, g, e26, nl, i1, i2, Int.toNat_natCast, c1', c2', c3', p122, e3]
        exact ih
      · have e : rchV t n (aV ρ k) = aV ρ k := if_neg c
        rw [e, wrV_eta] at ih
        have s53 : RR (lkB tb522) (B522_2, [some (mR (some 80)), some (mI t), some (mI n), some (mI (k : Int))], [], ρ) = RR (lkB tb522) (B522_53, [some (mR (some 80)), some (mI t), some (mI n), some (mI (k : Int))], [], ρ) := by
          by_cases c1 : gI ρ 118 k = 7
          · by_cases c2 : gI ρ 121 k = t
            · have c3 : n ≤ gI ρ 122 k := by
                have : ¬ vr (aV ρ k) < n := fun q => c ⟨c1, c2, q⟩
                have : gI ρ 122 k = vr (aV ρ k) := rfl
                omega
              simp only [e522_2, Option.getD_some, Option.bind_some, Option.toList_some, Option.toList_none, List.cons_append, List.nil_append, and_self, and_true, true_and, false_and, and_false, ite_self, not_true_eq_false, not_false_eq_true, reduceIte, Nat.reduceEqDiff, ab_I, ab_L, ab_R, ao_I, ao_L, ao_R, gL_sL, gI_sI, gR_sR, gI_sL, gI_sR, gL_sI, gL_sR, gR_sI, gR_sL, g_123, g_118, g_121, g_122, Int.reduceLT, Int.reduceLE, show (0 : Int).toNat = 0 from rfl, g, e26, nl, i1, i2, Int.toNat_natCast, c1, c2, c3]
            · simp only [e522_2, Option.getD_some, Option.bind_some, Option.toList_some, Option.toList_none, List.cons_append, List.nil_append, and_self, and_true, true_and, false_and, and_false, ite_self, not_true_eq_false, not_false_eq_true, reduceIte, Nat.reduceEqDiff, ab_I, ab_L, ab_R, ao_I, ao_L, ao_R, gL_sL, gI_sI, gR_sR, gI_sL, gI_sR, gL_sI, gL_sR, gR_sI, gR_sL, g_123, g_118, g_121, g_122, Int.reduceLT, Int.reduceLE, show (0 : Int).toNat = 0 from rfl, g, e26, nl, i1, i2, Int.toNat_natCast, c1, c2]
          · simp only [e522_2, Option.getD_some, Option.bind_some, Option.toList_some, Option.toList_none, List.cons_append, List.nil_append, and_self, and_true, true_and, false_and, and_false, ite_self, not_true_eq_false, not_false_eq_true, reduceIte, Nat.reduceEqDiff, ab_I, ab_L, ab_R, ao_I, ao_L, ao_R, gL_sL, gI_sI, gR_sR, gI_sL, gI_sR, gL_sI, gL_sR, gR_sI, gR_sL, g_123, g_118, g_121, g_122, Int.reduceLT, Int.reduceLE, show (0 : Int).toNat = 0 from rfl, g, e26, nl, i1, i2, Int.toNat_natCast, c1]
        rw [s53, e522_53, e3]
        exact ih
  have := key (26 * F) (Nat.le_refl _)
  rw [Nat.sub_self] at this
  rw [M522, e522_0]
  exact this
theorem L518 (h : gI σ 123 0 = (F : Int)) (hF : F ≤ 4) : RR (lkB tb518) (B518_2, [some (mR (some 80)), some (mI t), some (mI n), some (mI 0)], [], σ) = RR (lkB tb518) (B518_2, [some (mR (some 80)), some (mI t), some (mI n), some (mI ((26 * F : Nat) : Int))], [], apS σ (zerV t) (26 * F)) := by
  generalize hR : RR (lkB tb518) (B518_2, [some (mR (some 80)), some (mI t), some (mI n), some (mI ((26 * F : Nat) : Int))], [], apS σ (zerV t) (26 * F)) = R
  have key : ∀ m : Nat, m ≤ 26 * F → RR (lkB tb518) (B518_2, [some (mR (some 80)), some (mI t), some (mI n), some (mI ((26 * F - m : Nat) : Int))], [], apS σ (zerV t) (26 * F - m)) = R := by
    intro m
    induction m with
    | zero => intro _; exact hR
    | succ m ih =>
      intro hm
      have ih := ih (by omega)
      have e3 : w32 (((26 * F - (m + 1) : Nat) : Int) + 1) = ((26 * F - m : Nat) : Int) := by
        rw [w32_i (by omega) (by omega)]
        omega
      rw [ap_s (by omega)] at ih
      have g : gI (apS σ (zerV t) (26 * F - (m + 1))) 123 0 = (F : Int) := (ap_I (by omega)).trans h
      have hi : inB ((26 * F - (m + 1) : Nat) : Int) := ⟨by omega, by omega⟩
      generalize ek : 26 * F - (m + 1) = k at *
      generalize eρ : apS σ (zerV t) k = ρ at *
      have i1 := hi.1
      have i2 := hi.2
      have nl : ¬ ((26 * F : Nat) : Int) ≤ (k : Int) := by omega
      have e26 : w32 (26 * (F : Int)) = ((26 * F : Nat) : Int) := by rw [w32_i (by omega) (by omega)]; omega
      have t93 := T493 (σ := ρ) hi
      rw [Int.toNat_natCast] at t93
      by_cases c : isMb (aV ρ k) ∧ vt (aV ρ k) = t
      · have e : zerV t (aV ρ k) = numV (cstN 0#64) := if_pos c
        rw [e] at ih
        obtain ⟨c1, c2⟩ := c
        have c2' : gI ρ 121 k = t := c2
        rw [e518_2]
        simp only [e518_20, e518_39, Option.getD_some, Option.bind_some, Option.toList_some, Option.toList_none, List.cons_append, List.nil_append, and_self, and_true, true_and, false_and, and_false, ite_self, not_true_eq_false, not_false_eq_true, reduceIte, Nat.reduceEqDiff, ab_I, ab_L, ab_R, ao_I, ao_L, ao_R, gL_sL, gI_sI, gR_sR, gI_sL, gI_sR, gL_sI, gL_sR, gR_sI, gR_sL, g_123, g_121, Int.reduceLT, Int.reduceLE, show (0 : Int).toNat = 0 from rfl, g, e26, nl, i1, i2, Int.toNat_natCast, t93, b2_0', c1, c2', T433 hi.1 hi.2, e3]
        exact ih
      · have e : zerV t (aV ρ k) = aV ρ k := if_neg c
        rw [e, wrV_eta] at ih
        have s39 : RR (lkB tb518) (B518_2, [some (mR (some 80)), some (mI t), some (mI n), some (mI (k : Int))], [], ρ) = RR (lkB tb518) (B518_39, [some (mR (some 80)), some (mI t), some (mI n), some (mI (k : Int))], [], ρ) := by
          by_cases c1 : isMb (aV ρ k)
          · have c2 : ¬ gI ρ 121 k = t := fun q => c ⟨c1, q⟩
            simp only [e518_2, e518_20, Option.getD_some, Option.bind_some, Option.toList_some, Option.toList_none, List.cons_append, List.nil_append, and_self, and_true, true_and, false_and, and_false, ite_self, not_true_eq_false, not_false_eq_true, reduceIte, Nat.reduceEqDiff, ab_I, ab_L, ab_R, ao_I, ao_L, ao_R, gL_sL, gI_sI, gR_sR, gI_sL, gI_sR, gL_sI, gL_sR, gR_sI, gR_sL, g_123, g_121, Int.reduceLT, Int.reduceLE, show (0 : Int).toNat = 0 from rfl, g, e26, nl, i1, i2, Int.toNat_natCast, t93, b2_0', c1, c2]
          · simp only [e518_2, e518_20, Option.getD_some, Option.bind_some, Option.toList_some, Option.toList_none, List.cons_append, List.nil_append, and_self, and_true, true_and, false_and, and_false, ite_self, not_true_eq_false, not_false_eq_true, reduceIte, Nat.reduceEqDiff, ab_I, ab_L, ab_R, ao_I, ao_L, ao_R, gL_sL, gI_sI, gR_sR, gI_sL, gI_sR, gL_sI, gL_sR, gR_sI, gR_sL, g_123, g_121, Int.reduceLT, Int.reduceLE, show (0 : Int).toNat = 0 from rfl, g, e26, nl, i1, i2, Int.toNat_natCast, t93, b2_0', c1]
        rw [s39, e518_39, e3]
        exact ih
  have := key (26 * F) (Nat.le_refl _)
  rw [Nat.sub_self] at this
  exact this
theorem T519 (h : gI σ 123 0 = (F : Int)) (hF : F ≤ 4) : MM 519 [mR (some 80), mI t] σ = some (none, apS σ (plcV t) (26 * F)) := by
  have key : ∀ m : Nat, m ≤ 26 * F → RR (lkB tb519) (B519_2, [some (mR (some 80)), some (mI t), some (mI ((26 * F - m : Nat) : Int)), none], [], apS σ (plcV t) (26 * F - m)) = some (none, apS σ (plcV t) (26 * F)) := by
    intro m
    induction m with
    | zero =>
      intro _
      have g : gI (apS σ (plcV t) (26 * F - 0)) 123 0 = (F : Int) := (ap_I (by omega)).trans h
      rw [e519_2]
      simp only [g_123]
      rw [if_pos ⟨by omega, by omega⟩, show (0 : Int).toNat = 0 from rfl, g, w32_i (by omega) (by omega), if_pos (by omega)]
      rfl
    | succ m ih =>
      intro hm
      have ih := ih (by omega)
      have e3 : w32 (((26 * F - (m + 1) : Nat) : Int) + 1) = ((26 * F - m : Nat) : Int) := by
        rw [w32_i (by omega) (by omega)]
        omega
      rw [ap_s (by omega)] at ih
      have g : gI (apS σ (plcV t) (26 * F - (m + 1))) 123 0 = (F : Int) := (ap_I (by omega)).trans h
      have hi : inB ((26 * F - (m + 1) : Nat) : Int) := ⟨by omega, by omega⟩
      generalize ek : 26 * F - (m + 1) = k at *
      generalize eρ : apS σ (plcV t) k = ρ at *
      have i1 := hi.1
      have i2 := hi.2
      have nl : ¬ ((26 * F : Nat) : Int) ≤ (k : Int) := by omega
      have e26 : w32 (26 * (F : Int)) = ((26 * F : Nat) : Int) := by rw [w32_i (by omega) (by omega)]; omega
      have t93 := T493 (σ := ρ) hi
      rw [Int.toNat_natCast] at t93
      by_cases c : isMb (aV ρ k) ∧ vt (aV ρ k) = t
      · have e : plcV t (aV ρ k) = mkV (if vk (aV ρ k) = 6 then 5 else 9) (vw (aV ρ k)) (if vk (aV ρ k) = 6 then 0 else t) := if_pos c
        rw [e] at ih
        obtain ⟨c1, c2⟩ := c
        have c2' : gI ρ 121 k = t := c2
        by_cases c6 : vk (aV ρ k) = 6
        · rw [if_pos c6, if_pos c6] at ih
          have c6' : gI ρ 118 k = 6 := c6
          simp only [e519_2, e519_20, e519_49, e519_62, e519_77, Option.getD_some, Option.bind_some, Option.toList_some, Option.toList_none, List.cons_append, List.nil_append, and_self, and_true, true_and, false_and, and_false, ite_self, not_true_eq_false, not_false_eq_true, reduceIte, Nat.reduceEqDiff, ab_I, ab_L, ab_R, ao_I, ao_L, ao_R, gL_sL, gI_sI, gR_sR, gI_sL, gI_sR, gL_sI, gL_sR, gR_sI, gR_sL, g_123, g_118, g_120, g_121, Int.reduceLT, Int.reduceLE, show (0 : Int).toNat = 0 from rfl, g, e26, nl, i1, i2, Int.toNat_natCast, t93, b2_0', c1, c2', c6', oneI, T431 hi (show (0 : Int) ≤ 5 ∧ (5 : Int) ≤ 10 by decide)]
          refine RR_q (ls := [some (mR (some 80)), some (mI t), some (mI (k : Int)), none]) ?_ (by repeat (first | exact lq_nil | refine lq_cons (Or.inr rfl) ?_ | refine lq_cons (Or.inl rfl) ?_))
          rw [e519_80, e3]
          exact ih
        · rw [if_neg c6, if_neg c6] at ih
          have c6' : ¬ gI ρ 118 k = 6 := c6
          simp only [e519_2, e519_20, e519_49, e519_62, e519_77, Option.getD_some, Option.bind_some, Option.toList_some, Option.toList_none, List.cons_append, List.nil_append, and_self, and_true, true_and, false_and, and_false, ite_self, not_true_eq_false, not_false_eq_true, reduceIte, Nat.reduceEqDiff, ab_I, ab_L, ab_R, ao_I, ao_L, ao_R, gL_sL, gI_sI, gR_sR, gI_sL, gI_sR, gL_sI, gL_sR, gR_sI, gR_sL, g_123, g_118, g_120, g_121, Int.reduceLT, Int.reduceLE, show (0 : Int).toNat = 0 from rfl, g, e26, nl, i1, i2, Int.toNat_natCast, t93, b2_0', c1, c2', c6', oneI, T431 hi (show (0 : Int) ≤ 9 ∧ (9 : Int) ≤ 10 by decide)]
          refine RR_q (ls := [some (mR (some 80)), some (mI t), some (mI (k : Int)), none]) ?_ (by repeat (first | exact lq_nil | refine lq_cons (Or.inr rfl) ?_ | refine lq_cons (Or.inl rfl) ?_))
          rw [e519_80, e3]
          exact ih
      · have e : plcV t (aV ρ k) = aV ρ k := if_neg c
        rw [e, wrV_eta] at ih
        have s80 : RR (lkB tb519) (B519_2, [some (mR (some 80)), some (mI t), some (mI (k : Int)), none], [], ρ) = RR (lkB tb519) (B519_80, [some (mR (some 80)), some (mI t), some (mI (k : Int)), none], [], ρ) := by
          by_cases c1 : isMb (aV ρ k)
          · have c2 : ¬ gI ρ 121 k = t := fun q => c ⟨c1, q⟩
            simp only [e519_2, e519_20, Option.getD_some, Option.bind_some, Option.toList_some, Option.toList_none, List.cons_append, List.nil_append, and_self, and_true, true_and, false_and, and_false, ite_self, not_true_eq_false, not_false_eq_true, reduceIte, Nat.reduceEqDiff, ab_I, ab_L, ab_R, ao_I, ao_L, ao_R, gL_sL, gI_sI, gR_sR, gI_sL, gI_sR, gL_sI, gL_sR, gR_sI, gR_sL, g_123, g_121, Int.reduceLT, Int.reduceLE, show (0 : Int).toNat = 0 from rfl, g, e26, nl, i1, i2, Int.toNat_natCast, t93, b2_0', c1, c2]
          · simp only [e519_2, e519_20, Option.getD_some, Option.bind_some, Option.toList_some, Option.toList_none, List.cons_append, List.nil_append, and_self, and_true, true_and, false_and, and_false, ite_self, not_true_eq_false, not_false_eq_true, reduceIte, Nat.reduceEqDiff, ab_I, ab_L, ab_R, ao_I, ao_L, ao_R, gL_sL, gI_sI, gR_sR, gI_sL, gI_sR, gL_sI, gL_sR, gR_sI, gR_sL, g_123, g_121, Int.reduceLT, Int.reduceLE, show (0 : Int).toNat = 0 from rfl, g, e26, nl, i1, i2, Int.toNat_natCast, t93, b2_0', c1]
        rw [s80, e519_80, e3]
        exact ih
  have := key (26 * F) (Nat.le_refl _)
  rw [Nat.sub_self] at this
  rw [M519, e519_0]
  exact this
end LP
