/-! ===== the law: a turn of its loop ===== -/
abbrev lsW (j : Nat) : List (Option MV) := [some (mR (some scrK)), some (mR (some 0)), some (mR (some 80)), some (mI (j : Int))]
section LAW1
variable {σ τ ρ υ : MS} {L j c r : Nat} {xs : Nat → Int} {as : List MV} {b1 b2 : List Ins}
theorem mm_s {m : Nat} {v : Option MV} (e : MM m as σ = some (v, τ)) : τ.2.2.2.2.2 = σ.2.2.2.2.2 := by
  obtain ⟨n, hn⟩ := RR_ex e
  have z : mo (enC m as σ).2.2.2 τ := run_mo _ _ _ _ hn
  rw [enC_s] at z
  exact z.2.2
theorem scr_k (h : τ.2.2.2.2.2 = (L, xs)) : kd τ scrK = (9, L) := by
  unfold kd
  rw [if_neg (by decide), if_pos rfl, h]
theorem scr_a (h : τ.2.2.2.2.2 = (L, xs)) (hj : j + 6 ≤ L) (hL : L ≤ 3072) (i : Int) (hi : 0 ≤ i ∧ i ≤ 5) : Option.isSome (some scrK) = true ∧ ab τ 9 (Option.getD (some scrK) 0) (w32 ((j : Int) + i)) := by
  refine ⟨rfl, ?_⟩
  show (kd τ scrK).1 = 9 ∧ 0 ≤ w32 ((j : Int) + i) ∧ w32 ((j : Int) + i) < ((kd τ scrK).2 : Int)
  rw [scr_k h, w32_i (by omega) (by omega)]
  exact ⟨rfl, by omega, by show (j : Int) + i < (L : Int); omega⟩
theorem lwI (P : pI c r as σ) (h1 : ∀ v τ, τ.2.2.2.2.2 = σ.2.2.2.2.2 → RR (lkB tb583) (b1, lsW j, [mI v], τ) = (MM r (mR (some 80) :: as) τ).bind fun q => RR (lkB tb583) (b2, lsW j, q.1.toList ++ [mI v], q.2)) (h2 : ∀ v τ, RR (lkB tb583) (b2, lsW j, [mI v, mI v], τ) = RR (lkB tb583) (B583_1076, lsW j, [], τ)) : ∃ υ, ((MM c (mR (some 0) :: as) σ).bind fun q => RR (lkB tb583) (b1, lsW j, q.1.toList ++ [], q.2)) = RR (lkB tb583) (B583_1076, lsW j, [], υ) ∧ REL υ ∧ υ.2.2.2.2.2 = σ.2.2.2.2.2 := by
  obtain ⟨v, τ, υ, t, t', R'⟩ := P
  have s1 := mm_s t
  refine ⟨υ, ?_, R', (mm_s t').trans s1⟩
  rw [t]
  show RR (lkB tb583) (b1, lsW j, [mI v], τ) = _
  rw [h1 v τ s1, t']
  exact h2 v υ
theorem lwL (P : pL c r as σ) (h1 : ∀ v τ, τ.2.2.2.2.2 = σ.2.2.2.2.2 → RR (lkB tb583) (b1, lsW j, [mL v], τ) = (MM r (mR (some 80) :: as) τ).bind fun q => RR (lkB tb583) (b2, lsW j, q.1.toList ++ [mL v], q.2)) (h2 : ∀ v τ, RR (lkB tb583) (b2, lsW j, [mL v, mL v], τ) = RR (lkB tb583) (B583_1076, lsW j, [], τ)) : ∃ υ, ((MM c (mR (some 0) :: as) σ).bind fun q => RR (lkB tb583) (b1, lsW j, q.1.toList ++ [], q.2)) = RR (lkB tb583) (B583_1076, lsW j, [], υ) ∧ REL υ ∧ υ.2.2.2.2.2 = σ.2.2.2.2.2 := by
  obtain ⟨v, τ, υ, t, t', R'⟩ := P
  have s1 := mm_s t
  refine ⟨υ, ?_, R', (mm_s t').trans s1⟩
  rw [t]
  show RR (lkB tb583) (b1, lsW j, [mL v], τ) = _
  rw [h1 v τ s1, t']
  exact h2 v υ
theorem lwV (P : pV c r as σ) (h1 : ∀ τ, τ.2.2.2.2.2 = σ.2.2.2.2.2 → RR (lkB tb583) (b1, lsW j, [], τ) = (MM r (mR (some 80) :: as) τ).bind fun q => RR (lkB tb583) (b2, lsW j, q.1.toList ++ [], q.2)) (h2 : ∀ τ, RR (lkB tb583) (b2, lsW j, [], τ) = RR (lkB tb583) (B583_1076, lsW j, [], τ)) : ∃ υ, ((MM c (mR (some 0) :: as) σ).bind fun q => RR (lkB tb583) (b1, lsW j, q.1.toList ++ [], q.2)) = RR (lkB tb583) (B583_1076, lsW j, [], υ) ∧ REL υ ∧ υ.2.2.2.2.2 = σ.2.2.2.2.2 := by
  obtain ⟨τ, υ, t, t', R'⟩ := P
  have s1 := mm_s t
  refine ⟨υ, ?_, R', (mm_s t').trans s1⟩
  rw [t]
  show RR (lkB tb583) (b1, lsW j, [], τ) = _
  rw [h1 τ s1, t']
  exact h2 υ

set_option maxHeartbeats 8000000 in
theorem law_1 (R : REL σ) (hs : σ.2.2.2.2.2 = (L, xs)) (hx : ∀ i, inR (xs i)) (hj : j + 6 ≤ L) (hL : L ≤ 3072) : ∃ υ, RR (lkB tb583) (B583_18, lsW j, [], σ) = RR (lkB tb583) (B583_1076, lsW j, [], υ) ∧ REL υ ∧ υ.2.2.2.2.2 = σ.2.2.2.2.2 := by
  have k9 := scr_k hs
  have c1 : Option.isSome (some scrK) = true ∧ (kd σ (Option.getD (some scrK) 0)).1 = 9 := ⟨rfl, by show (kd σ scrK).1 = 9; rw [k9]⟩
  have c2 : ¬ w32 (((kd σ (Option.getD (some scrK) 0)).2 : Int) - 6) < (j : Int) := by
    show ¬ w32 (((kd σ scrK).2 : Int) - 6) < (j : Int)
    rw [k9, w32_i (by show -2147483648 ≤ (L : Int) - 6; omega) (by show (L : Int) - 6 < 2147483648; omega)]
    show ¬ (L : Int) - 6 < (j : Int)
    omega
  have c3 : Option.isSome (some scrK) = true ∧ ab σ 9 (Option.getD (some scrK) 0) (j : Int) := by
    refine ⟨rfl, ?_⟩
    show (kd σ scrK).1 = 9 ∧ 0 ≤ (j : Int) ∧ (j : Int) < ((kd σ scrK).2 : Int)
    rw [k9]
    exact ⟨rfl, by omega, by show (j : Int) < (L : Int); omega⟩
  have hq : ∀ i, -2147483648 ≤ σ.2.2.2.2.2.2 i ∧ σ.2.2.2.2.2.2 i < 2147483648 := fun i => by
    rw [hs]
    exact hx i
  have a : ∀ τ : MS, τ.2.2.2.2.2 = σ.2.2.2.2.2 → ∀ i : Int, 0 ≤ i ∧ i ≤ 5 → Option.isSome (some scrK) = true ∧ ab τ 9 (Option.getD (some scrK) 0) (w32 ((j : Int) + i)) := fun τ h i hi => scr_a (h.trans hs) hj hL i hi
  rw [e583_18, if_pos c1, if_neg c2, if_pos c3]
  obtain ⟨o, ho⟩ : ∃ o, o = iAnd (σ.2.2.2.2.2.2 (Int.toNat (j : Int))) 63 := ⟨_, rfl⟩
  rw [← ho]
  by_cases q0 : o = 0
  · rw [if_pos q0, if_pos (a σ rfl 1 (by decide)), if_pos (a σ rfl 2 (by decide)), if_pos (a σ rfl 3 (by decide)), if_pos (a σ rfl 4 (by decide)), if_pos (a σ rfl 5 (by decide))]
    exact lwI (pr_0 R) (fun v τ h => by rw [e583_213, if_pos (a τ h 1 (by decide)), if_pos (a τ h 2 (by decide)), if_pos (a τ h 3 (by decide)), if_pos (a τ h 4 (by decide)), if_pos (a τ h 5 (by decide)), h]) (fun v τ => by rw [e583_242, if_pos rfl])
  rw [if_neg q0]
  by_cases q1 : o = 1
  · rw [if_pos q1, if_pos (a σ rfl 1 (by decide))]
    exact lwI (pr_1 R) (fun v τ h => by rw [e583_256, if_pos (a τ h 1 (by decide)), h]) (fun v τ => by rw [e583_265, if_pos rfl])
  rw [if_neg q1]
  by_cases q2 : o = 2
  · rw [if_pos q2, if_pos (a σ rfl 1 (by decide))]
    exact lwI (pr_2 R) (fun v τ h => by rw [e583_279, if_pos (a τ h 1 (by decide)), h]) (fun v τ => by rw [e583_288, if_pos rfl])
  rw [if_neg q2]
  by_cases q3 : o = 3
  · rw [if_pos q3, if_pos (a σ rfl 1 (by decide))]
    exact lwI (pr_3 R) (fun v τ h => by rw [e583_302, if_pos (a τ h 1 (by decide)), h]) (fun v τ => by rw [e583_311, if_pos rfl])
  rw [if_neg q3]
  by_cases q4 : o = 4
  · rw [if_pos q4, if_pos (a σ rfl 1 (by decide))]
    exact lwI (pr_4 R) (fun v τ h => by rw [e583_325, if_pos (a τ h 1 (by decide)), h]) (fun v τ => by rw [e583_334, if_pos rfl])
  rw [if_neg q4]
  by_cases q5 : o = 5
  · rw [if_pos q5, if_pos (a σ rfl 1 (by decide)), if_pos (a σ rfl 2 (by decide))]
    exact lwL (pr_5 R) (fun v τ h => by rw [e583_353, if_pos (a τ h 1 (by decide)), if_pos (a τ h 2 (by decide)), h]) (fun v τ => by rw [e583_367, if_pos rfl])
  rw [if_neg q5]
  by_cases q6 : o = 6
  · rw [if_pos q6, if_pos (a σ rfl 1 (by decide))]
    exact lwI (pr_6 R) (fun v τ h => by rw [e583_382, if_pos (a τ h 1 (by decide)), h]) (fun v τ => by rw [e583_391, if_pos rfl])
  rw [if_neg q6]
  by_cases q7 : o = 7
  · rw [if_pos q7]
    exact lwI (pr_7 R) (fun v τ h => by rw [e583_400]) (fun v τ => by rw [e583_404, if_pos rfl])
  rw [if_neg q7]
  by_cases q8 : o = 8
  · rw [if_pos q8, if_pos (a σ rfl 1 (by decide))]
    exact lwI (pr_8 R) (fun v τ h => by rw [e583_418, if_pos (a τ h 1 (by decide)), h]) (fun v τ => by rw [e583_427, if_pos rfl])
  rw [if_neg q8]
  by_cases q9 : o = 9
  · rw [if_pos q9, if_pos (a σ rfl 1 (by decide))]
    exact lwI (pr_9 R) (fun v τ h => by rw [e583_441, if_pos (a τ h 1 (by decide)), h]) (fun v τ => by rw [e583_450, if_pos rfl])
  rw [if_neg q9]
  by_cases q10 : o = 10
  · rw [if_pos q10, if_pos (a σ rfl 1 (by decide))]
    exact lwI (pr_10 R) (fun v τ h => by rw [e583_464, if_pos (a τ h 1 (by decide)), h]) (fun v τ => by rw [e583_473, if_pos rfl])
  rw [if_neg q10]
  by_cases q11 : o = 11
  · rw [if_pos q11, if_pos (a σ rfl 1 (by decide))]
    exact lwI (pr_11 R) (fun v τ h => by rw [e583_487, if_pos (a τ h 1 (by decide)), h]) (fun v τ => by rw [e583_496, if_pos rfl])
  rw [if_neg q11]
  by_cases q12 : o = 12
  · rw [if_pos q12, if_pos (a σ rfl 1 (by decide)), if_pos (a σ rfl 2 (by decide)), if_pos (a σ rfl 3 (by decide))]
    exact lwL (pr_12 R) (fun v τ h => by rw [e583_520, if_pos (a τ h 1 (by decide)), if_pos (a τ h 2 (by decide)), if_pos (a τ h 3 (by decide)), h]) (fun v τ => by rw [e583_539, if_pos rfl])
  rw [if_neg q12]
  by_cases q13 : o = 13
  · rw [if_pos q13, if_pos (a σ rfl 1 (by decide)), if_pos (a σ rfl 2 (by decide)), if_pos (a σ rfl 3 (by decide)), if_pos (a σ rfl 4 (by decide)), if_pos (a σ rfl 5 (by decide))]
    exact lwI (pr_13 R) (fun v τ h => by rw [e583_574, if_pos (a τ h 1 (by decide)), if_pos (a τ h 2 (by decide)), if_pos (a τ h 3 (by decide)), if_pos (a τ h 4 (by decide)), if_pos (a τ h 5 (by decide)), h]) (fun v τ => by rw [e583_603, if_pos rfl])
  rw [if_neg q13]
  by_cases q14 : o = 14
  · rw [if_pos q14, if_pos (a σ rfl 1 (by decide)), if_pos (a σ rfl 2 (by decide))]
    exact lwI (pr_14 R (hq _)) (fun v τ h => by rw [e583_622, if_pos (a τ h 1 (by decide)), if_pos (a τ h 2 (by decide)), h]) (fun v τ => by rw [e583_636, if_pos rfl])
  rw [if_neg q14]
  by_cases q15 : o = 15
  · rw [if_pos q15, if_pos (a σ rfl 1 (by decide))]
    exact lwI (pr_15 R) (fun v τ h => by rw [e583_650, if_pos (a τ h 1 (by decide)), h]) (fun v τ => by rw [e583_659, if_pos rfl])
  rw [if_neg q15]
  by_cases q16 : o = 16
  · rw [if_pos q16, if_pos (a σ rfl 1 (by decide))]
    exact lwI (pr_16 R) (fun v τ h => by rw [e583_673, if_pos (a τ h 1 (by decide)), h]) (fun v τ => by rw [e583_682, if_pos rfl])
  rw [if_neg q16]
  by_cases q17 : o = 17
  · rw [if_pos q17, if_pos (a σ rfl 1 (by decide)), if_pos (a σ rfl 2 (by decide))]
    exact lwI (pr_17 R) (fun v τ h => by rw [e583_701, if_pos (a τ h 1 (by decide)), if_pos (a τ h 2 (by decide)), h]) (fun v τ => by rw [e583_715, if_pos rfl])
  rw [if_neg q17]
  by_cases q18 : o = 18
  · rw [if_pos q18, if_pos (a σ rfl 1 (by decide))]
    exact lwI (pr_18 R) (fun v τ h => by rw [e583_729, if_pos (a τ h 1 (by decide)), h]) (fun v τ => by rw [e583_738, if_pos rfl])
  rw [if_neg q18]
  by_cases q19 : o = 19
  · rw [if_pos q19, if_pos (a σ rfl 1 (by decide)), if_pos (a σ rfl 2 (by decide)), if_pos (a σ rfl 3 (by decide))]
    exact lwI (pr_19 R (hq _)) (fun v τ h => by rw [e583_762, if_pos (a τ h 1 (by decide)), if_pos (a τ h 2 (by decide)), if_pos (a τ h 3 (by decide)), h]) (fun v τ => by rw [e583_781, if_pos rfl])
  rw [if_neg q19]
  by_cases q20 : o = 20
  · rw [if_pos q20, if_pos (a σ rfl 1 (by decide))]
    exact lwI (pr_20 R) (fun v τ h => by rw [e583_795, if_pos (a τ h 1 (by decide)), h]) (fun v τ => by rw [e583_804, if_pos rfl])
  rw [if_neg q20]
  by_cases q21 : o = 21
  · rw [if_pos q21]
    exact lwI (pr_21 R) (fun v τ h => by rw [e583_813]) (fun v τ => by rw [e583_817, if_pos rfl])
  rw [if_neg q21]
  by_cases q22 : o = 22
  · rw [if_pos q22]
    exact lwI (pr_22 R) (fun v τ h => by rw [e583_826]) (fun v τ => by rw [e583_830, if_pos rfl])
  rw [if_neg q22]
  by_cases q23 : o = 23
  · rw [if_pos q23, if_pos (a σ rfl 1 (by decide))]
    exact lwI (pr_23 R) (fun v τ h => by rw [e583_844, if_pos (a τ h 1 (by decide)), h]) (fun v τ => by rw [e583_853, if_pos rfl])
  rw [if_neg q23]
  by_cases q24 : o = 24
  · rw [if_pos q24, if_pos (a σ rfl 1 (by decide)), if_pos (a σ rfl 2 (by decide))]
    exact lwV (pr_24 R (hq _)) (fun τ h => by rw [e583_872, if_pos (a τ h 1 (by decide)), if_pos (a τ h 2 (by decide)), h]) (fun τ => by rw [e583_886])
  rw [if_neg q24]
  by_cases q25 : o = 25
  · rw [if_pos q25]
    exact lwI (pr_25 R) (fun v τ h => by rw [e583_893]) (fun v τ => by rw [e583_897, if_pos rfl])
  rw [if_neg q25]
  by_cases q26 : o = 26
  · rw [if_pos q26, if_pos (a σ rfl 1 (by decide)), if_pos (a σ rfl 2 (by decide))]
    exact lwV (pr_26 R) (fun τ h => by rw [e583_926, if_pos (a τ h 1 (by decide)), if_pos (a τ h 2 (by decide)), h]) (fun τ => by rw [e583_950])
  rw [if_neg q26]
  by_cases q27 : o = 27
  · rw [if_pos q27, if_pos (a σ rfl 1 (by decide)), if_pos (a σ rfl 2 (by decide))]
    exact lwI (pr_27 R) (fun v τ h => by rw [e583_967, if_pos (a τ h 1 (by decide)), if_pos (a τ h 2 (by decide)), h]) (fun v τ => by rw [e583_981, if_pos rfl])
  rw [if_neg q27]
  by_cases q28 : o = 28
  · rw [if_pos q28]
    exact lwL (pr_28 R) (fun v τ h => by rw [e583_990]) (fun v τ => by rw [e583_994, if_pos rfl])
  rw [if_neg q28]
  by_cases q29 : o = 29
  · rw [if_pos q29]
    exact lwI (pr_29 R) (fun v τ h => by rw [e583_1004]) (fun v τ => by rw [e583_1008, if_pos rfl])
  rw [if_neg q29]
  by_cases q30 : o = 30
  · rw [if_pos q30]
    exact lwL (pr_30 R) (fun v τ h => by rw [e583_1017]) (fun v τ => by rw [e583_1021, if_pos rfl])
  rw [if_neg q30]
  by_cases q31 : o = 31
  · rw [if_pos q31]
    exact lwI (pr_31 R) (fun v τ h => by rw [e583_1031]) (fun v τ => by rw [e583_1035, if_pos rfl])
  rw [if_neg q31]
  by_cases q32 : o = 32
  · rw [if_pos q32, if_pos (a σ rfl 1 (by decide))]
    exact lwI (pr_32 R) (fun v τ h => by rw [e583_1049, if_pos (a τ h 1 (by decide)), h]) (fun v τ => by rw [e583_1058, if_pos rfl])
  rw [if_neg q32]
  by_cases q33 : o = 33
  · rw [if_pos q33]
    exact lwI (pr_33 R) (fun v τ h => by rw [e583_1067]) (fun v τ => by rw [e583_1071, if_pos rfl])
  rw [if_neg q33]
  exact ⟨σ, rfl, R, rfl⟩
end LAW1
