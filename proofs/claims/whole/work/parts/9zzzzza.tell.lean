/-! ===== maps from outside: map, next; both sides ===== -/
/-- what may be told of a map -/
abbrev shpM (kind key value : Int) : Prop := (kind = 0 ∧ key = 4 ∨ kind = 1 ∧ 1 ≤ key ∧ key ≤ 16) ∧ (1 ≤ value ∧ value ≤ 64) ∨ (kind = 2 ∨ kind = 3) ∧ key = 0 ∧ value = 0
section TELL
variable {σ τ ρ υ : MS} {W V : WR} {m n p q e j i c k s z N : Nat} {x y f kd1 key value most : Int} {E : EV} {φ ψ : Nat → Nat} {L : List Int}
theorem T48 : MM 48 [mI kd1, mI key, mI value] σ = some (some (mI (b2 (shpM kd1 key value))), σ) := by
  have e16 : RR (lkB tb48) (B48_0, [some (mI kd1), some (mI key), some (mI value), none], [], σ) = RR (lkB tb48) (B48_16, [some (mI kd1), some (mI key), some (mI value), none], [mI (if 1 ≤ value ∧ value ≤ 64 then 1 else 0)], σ) := by
    rw [e48_0]
    by_cases c1 : value < 1
    · rw [if_pos c1, e48_15, if_neg (show ¬ (1 ≤ value ∧ value ≤ 64) by omega)]
    · rw [if_neg c1]
      by_cases c2 : 64 < value
      · rw [if_pos c2, e48_15, if_neg (show ¬ (1 ≤ value ∧ value ≤ 64) by omega)]
      · rw [if_neg c2, if_pos (show 1 ≤ value ∧ value ≤ 64 by omega)]
  have vz : ((if 1 ≤ value ∧ value ≤ 64 then (1 : Int) else 0) = 0) = ¬ (1 ≤ value ∧ value ≤ 64) := by
    by_cases c : 1 ≤ value ∧ value ≤ 64
    · rw [if_pos c]
      exact propext ⟨fun z => absurd z (by decide), fun z => absurd c z⟩
    · rw [if_neg c]
      exact propext ⟨fun _ => c, fun _ => rfl⟩
  rw [M48, e16]
  clear e16
  generalize (if 1 ≤ value ∧ value ≤ 64 then (1 : Int) else 0) = v at vz
  rw [e48_16]
  by_cases k0 : kd1 = 0
  · rw [if_pos k0]
    by_cases c1 : key = 4
    · rw [if_neg (fun y => y c1)]
      by_cases c2 : v = 0
      · rw [if_pos c2, e48_61, b2_no (by rw [vz] at c2; omega)]
      · rw [if_neg c2, b2_yes (by rw [vz] at c2; omega)]
    · rw [if_pos c1, e48_61, b2_no (by omega)]
  rw [if_neg k0]
  by_cases k1 : kd1 = 1
  · rw [if_pos k1]
    by_cases c1 : key < 1
    · rw [if_pos c1, e48_82, b2_no (by omega)]
    rw [if_neg c1]
    by_cases c3 : 16 < key
    · rw [if_pos c3, e48_82, b2_no (by omega)]
    rw [if_neg c3]
    by_cases c2 : v = 0
    · rw [if_pos c2, e48_82, b2_no (by rw [vz] at c2; omega)]
    · rw [if_neg c2, b2_yes (by rw [vz] at c2; omega)]
  rw [if_neg k1]
  by_cases k2 : kd1 = 2
  · rw [if_pos k2]
    by_cases c1 : key = 0
    · rw [if_neg (fun y => y c1)]
      by_cases c2 : value = 0
      · rw [if_neg (fun y => y c2), b2_yes (by omega)]
      · rw [if_pos c2, e48_96, b2_no (by omega)]
    · rw [if_pos c1, e48_96, b2_no (by omega)]
  rw [if_neg k2]
  by_cases k3 : kd1 = 3
  · rw [if_pos k3]
    by_cases c1 : key = 0
    · rw [if_neg (fun y => y c1)]
      by_cases c2 : value = 0
      · rw [if_neg (fun y => y c2), b2_yes (by omega)]
      · rw [if_pos c2, e48_96, b2_no (by omega)]
    · rw [if_pos c1, e48_96, b2_no (by omega)]
  · rw [if_neg k3, b2_no (by omega)]
/-- the class: a map is told -/
theorem L47 (hm : m < 8) {x5 : Int} : ∀ (f j : Nat) (σ : MS), j + f = 16 → ∃ τ, RR (lkB tb47) (B47_102, [some (mR (some 26)), some (mI (m : Int)), some (mI kd1), some (mI key), some (mI value), some (mI x5), some (mI (j : Int))], [], σ) = some (some (mI 1), τ) ∧ τ.2 = σ.2 ∧ ∀ k s, gI τ k s = if k = 35 ∧ 16 * m + j ≤ s ∧ s < 16 * m + 16 then -1 else gI σ k s := by
  intro f
  induction f with
  | zero =>
    intro j σ hj
    refine ⟨σ, by rw [e47_102, if_pos (by omega)], rfl, fun k s => by rw [if_neg (by omega)]⟩
  | succ f ih =>
    intro j σ hj
    have e1 : w32 ((j : Int) + 1) = ((j + 1 : Nat) : Int) := by
      rw [w32_i (by omega) (by omega)]
      omega
    have w1 : w32 (w32 ((m : Int) * 16) + (j : Int)) = ((16 * m + j : Nat) : Int) := by
      rw [w32_i (x := (m : Int) * 16) (by omega) (by omega), w32_i (by omega) (by omega)]
      omega
    have b35 : 0 ≤ ((16 * m + j : Nat) : Int) ∧ ((16 * m + j : Nat) : Int) < 128 := by omega
    obtain ⟨τ, t1, t2, t3⟩ := ih (j + 1) (sI σ 35 (16 * m + j) (-1)) (by omega)
    refine ⟨τ, ?_, t2, fun k s => ?_⟩
    · rw [e47_102, if_neg (by omega), w1, if_pos (by rw [g_35]; exact b35), e1, Int.toNat_natCast]
      exact t1
    · rw [t3, gI_sI]
      by_cases y1 : k = 35 ∧ 16 * m + (j + 1) ≤ s ∧ s < 16 * m + 16
      · rw [if_pos y1, if_pos (by omega)]
      · rw [if_neg y1]
        by_cases y2 : k = 35 ∧ s = 16 * m + j
        · rw [if_pos y2, if_pos (by omega)]
        · rw [if_neg y2, if_neg (by omega)]
def tlC (σ : MS) (m : Nat) (kd1 key value most : Int) (k s : Nat) : Int := if k = 35 ∧ 16 * m ≤ s ∧ s < 16 * m + 16 then -1 else if k = 34 ∧ s = m then (if kd1 = 0 then most else 0) else if k = 33 ∧ s = m then most else if k = 32 ∧ s = m then value else if k = 31 ∧ s = m then key else if k = 30 ∧ s = m then kd1 else if k = 29 ∧ s = m then 1 else gI σ k s
theorem T306 (hm : m < 8) (h0 : gI σ 29 m = 0) (hs : shpM kd1 key value) (ht : 1 ≤ most ∧ most ≤ 16) : ∃ τ, MM 306 [mR (some 0), mI (m : Int), mI kd1, mI key, mI value, mI most] σ = some (some (mI 1), τ) ∧ τ.2 = σ.2 ∧ ∀ k s, gI τ k s = tlC σ m kd1 key value most k s := by
  have b8 : 0 ≤ (m : Int) ∧ (m : Int) < 8 := by omega
  have h67 : ∀ ρ : MS, RR (lkB tb47) (B47_67, [some (mR (some 26)), some (mI (m : Int)), some (mI kd1), some (mI key), some (mI value), some (mI most), none], [], ρ) = RR (lkB tb47) (B47_98, [some (mR (some 26)), some (mI (m : Int)), some (mI kd1), some (mI key), some (mI value), some (mI most), none], [mI (if kd1 = 0 then most else 0), mI (m : Int), mR (some 34)], sI (sI ρ 32 m value) 33 m most) := fun ρ => by
    rw [e47_67, if_pos (by rw [g_32]; exact b8), if_pos (by rw [g_33]; exact b8), Int.toNat_natCast]
    by_cases c : kd1 = 0
    · rw [if_neg (fun y => y c), if_pos c]
    · rw [if_pos c, if_neg c]
  obtain ⟨τ, t1, t2, t3⟩ := L47 (kd1 := kd1) (key := key) (value := value) (x5 := most) hm 16 0 (sI (sI (sI (sI (sI (sI σ 29 m (1 % 2)) 30 m kd1) 31 m key) 32 m value) 33 m most) 34 m (if kd1 = 0 then most else 0)) rfl
  refine ⟨τ, ?_, t2, fun k s => ?_⟩
  · have m47 : MM 47 [mR (some 26), mI (m : Int), mI kd1, mI key, mI value, mI most] σ = some (some (mI 1), τ) := by
      rw [M47, e47_0, if_neg (by omega), if_neg (by omega), if_pos (by rw [g_29]; exact b8), Int.toNat_natCast, if_neg (fun y => y h0), if_neg (by omega), if_pos (by omega), T48, b2_yes hs]
      simp only [Option.bind_some, Option.toList_some, Option.toList_none, List.cons_append, List.nil_append]
      rw [e47_41, if_pos n10, if_pos (by rw [g_29]; exact b8), if_pos (by rw [g_30]; exact b8), if_pos (by rw [g_31]; exact b8), Int.toNat_natCast, h67, e47_98, if_pos (show Option.isSome (some 34) = true ∧ ab (sI (sI (sI (sI (sI σ 29 m (1 % 2)) 30 m kd1) 31 m key) 32 m value) 33 m most) 3 (Option.getD (some 34) 0) (m : Int) from (g_34 (σ := sI (sI (sI (sI (sI σ 29 m (1 % 2)) 30 m kd1) 31 m key) 32 m value) 33 m most) (i := (m : Int))) ▸ b8), Int.toNat_natCast]
      exact t1
    rw [M306, e306_0, m47]
    simp only [Option.bind_some, Option.toList_some, Option.toList_none, List.cons_append, List.nil_append]
    rw [e306_14, if_pos (Or.inr rfl)]
  · rw [t3]
    unfold tlC
    rw [Nat.add_zero]
    by_cases y1 : k = 35 ∧ 16 * m ≤ s ∧ s < 16 * m + 16
    · rw [if_pos y1, if_pos y1]
    rw [if_neg y1, if_neg y1, gI_sI]
    by_cases y2 : k = 34 ∧ s = m
    · rw [if_pos y2, if_pos y2]
    rw [if_neg y2, if_neg y2, gI_sI]
    by_cases y3 : k = 33 ∧ s = m
    · rw [if_pos y3, if_pos y3]
    rw [if_neg y3, if_neg y3, gI_sI]
    by_cases y4 : k = 32 ∧ s = m
    · rw [if_pos y4, if_pos y4]
    rw [if_neg y4, if_neg y4, gI_sI]
    by_cases y5 : k = 31 ∧ s = m
    · rw [if_pos y5, if_pos y5]
    rw [if_neg y5, if_neg y5, gI_sI]
    by_cases y6 : k = 30 ∧ s = m
    · rw [if_pos y6, if_pos y6]
    rw [if_neg y6, if_neg y6, gI_sI]
    by_cases y7 : k = 29 ∧ s = m
    · rw [if_pos y7, if_pos y7]
      rfl
    · rw [if_neg y7, if_neg y7]
theorem T306n (h : (x < 0 ∨ 8 ≤ x) ∨ (∃ m : Nat, m < 8 ∧ x = (m : Int) ∧ ¬ gI σ 29 m = 0) ∨ ¬ shpM kd1 key value ∨ ¬ (1 ≤ most ∧ most ≤ 16)) : MM 306 [mR (some 0), mI x, mI kd1, mI key, mI value, mI most] σ = some (some (mI 0), σ) := by
  have m47 : MM 47 [mR (some 26), mI x, mI kd1, mI key, mI value, mI most] σ = some (some (mI 0), σ) := by
    rw [M47, e47_0]
    by_cases c1 : x < 0
    · rw [if_pos c1]
    rw [if_neg c1]
    by_cases c2 : 8 ≤ x
    · rw [if_pos c2]
    rw [if_neg c2]
    obtain ⟨m, rfl⟩ : ∃ m : Nat, x = (m : Int) := ⟨x.toNat, by omega⟩
    rw [if_pos (by rw [g_29]; omega), Int.toNat_natCast]
    by_cases c3 : gI σ 29 m = 0
    · rw [if_neg (fun y => y c3)]
      by_cases c4 : most < 1
      · rw [if_pos c4]
      rw [if_neg c4]
      by_cases c5 : most ≤ 16
      · have ns : ¬ shpM kd1 key value := by
          rcases h with h | ⟨m', h1, h2, h3⟩ | h | h
          · omega
          · have : m' = m := by omega
            rw [this] at h3
            exact absurd c3 h3
          · exact h
          · omega
        rw [if_pos c5, T48, b2_no ns]
        simp only [Option.bind_some, Option.toList_some, Option.toList_none, List.cons_append, List.nil_append]
        rw [e47_41, if_neg (fun y => y rfl)]
      · rw [if_neg c5]
    · rw [if_pos c3]
  rw [M306, e306_0, m47]
  simp only [Option.bind_some, Option.toList_some, Option.toList_none, List.cons_append, List.nil_append]
  rw [e306_14, if_pos (Or.inl rfl)]
/-! the reference: a map is told -/
theorem L406 (hm : m < 8) {x5 x6 : Int} : ∀ (f j : Nat) (σ : MS), j + f = 16 → ∃ τ, RR (lkB tb406) (B406_177, [some (mR (some 80)), some (mI (m : Int)), some (mI kd1), some (mI key), some (mI value), some (mI x5), some (mI x6), some (mI (j : Int))], [], σ) = some (some (mI 1), τ) ∧ τ.2 = σ.2 ∧ ∀ k s, gI τ k s = if k = 106 ∧ 16 * m + j ≤ s ∧ s < 16 * m + 16 then -1 else gI σ k s := by
  intro f
  induction f with
  | zero =>
    intro j σ hj
    refine ⟨σ, by rw [e406_177, if_pos (by omega)], rfl, fun k s => by rw [if_neg (by omega)]⟩
  | succ f ih =>
    intro j σ hj
    have e1 : w32 ((j : Int) + 1) = ((j + 1 : Nat) : Int) := by
      rw [w32_i (by omega) (by omega)]
      omega
    have b106 : 0 ≤ ((16 * m + j : Nat) : Int) ∧ ((16 * m + j : Nat) : Int) < 128 := by omega
    obtain ⟨τ, t1, t2, t3⟩ := ih (j + 1) (sI σ 106 (16 * m + j) (-1)) (by omega)
    refine ⟨τ, ?_, t2, fun k s => ?_⟩
    · rw [e406_177, if_neg (by omega), wa_16 hm (by omega), if_pos (by rw [g_106]; exact b106), e1, Int.toNat_natCast]
      exact t1
    · rw [t3, gI_sI]
      by_cases y1 : k = 106 ∧ 16 * m + (j + 1) ≤ s ∧ s < 16 * m + 16
      · rw [if_pos y1, if_pos (by omega)]
      · rw [if_neg y1]
        by_cases y2 : k = 106 ∧ s = 16 * m + j
        · rw [if_pos y2, if_pos (by omega)]
        · rw [if_neg y2, if_neg (by omega)]
def telW (W : WR) (m : Nat) (kd1 key value most : Int) : WR := (fun k s => if k = 106 ∧ 16 * m ≤ s ∧ s < 16 * m + 16 then -1 else if k = 99 ∧ s = m then most else if k = 98 ∧ s = m then value else if k = 97 ∧ s = m then key else if k = 96 ∧ s = m then kd1 else if k = 95 ∧ s = m then 1 else W.1 k s, W.2)
/-- the shape, as the reference asks -/
theorem L406s {x5 : Int} (h3 : 0 ≤ kd1 ∧ kd1 ≤ 3) : ∃ x6 : Int, (if ¬ kd1 = 0 then (if ¬ kd1 = 1 then (if ¬ key = 0 then RR (lkB tb406) (B406_90, [some (mR (some 80)), some (mI x), some (mI kd1), some (mI key), some (mI value), some (mI x5), none, none], [mI 0], σ) else RR (lkB tb406) (B406_90, [some (mR (some 80)), some (mI x), some (mI kd1), some (mI key), some (mI value), some (mI x5), none, none], [mI 1], σ)) else (if key < 1 then RR (lkB tb406) (B406_77, [some (mR (some 80)), some (mI x), some (mI kd1), some (mI key), some (mI value), some (mI x5), none, none], [], σ) else (if 16 < key then RR (lkB tb406) (B406_77, [some (mR (some 80)), some (mI x), some (mI kd1), some (mI key), some (mI value), some (mI x5), none, none], [], σ) else RR (lkB tb406) (B406_90, [some (mR (some 80)), some (mI x), some (mI kd1), some (mI key), some (mI value), some (mI x5), none, none], [mI 1], σ)))) else (if ¬ key = 4 then RR (lkB tb406) (B406_90, [some (mR (some 80)), some (mI x), some (mI kd1), some (mI key), some (mI value), some (mI x5), none, none], [mI 0], σ) else RR (lkB tb406) (B406_90, [some (mR (some 80)), some (mI x), some (mI kd1), some (mI key), some (mI value), some (mI x5), none, none], [mI 1], σ))) = RR (lkB tb406) (B406_128, [some (mR (some 80)), some (mI x), some (mI kd1), some (mI key), some (mI value), some (mI x5), some (mI x6), none], [mI (b2 (shpM kd1 key value))], σ) := by
  have e90 : ∀ y6 : Int, RR (lkB tb406) (B406_90, [some (mR (some 80)), some (mI x), some (mI kd1), some (mI key), some (mI value), some (mI x5), none, none], [mI y6], σ) = RR (lkB tb406) (B406_128, [some (mR (some 80)), some (mI x), some (mI kd1), some (mI key), some (mI value), some (mI x5), some (mI y6), none], [mI (b2 (¬ y6 = 0 ∧ (if 1 < kd1 then value = 0 else 1 ≤ value ∧ value ≤ 64)))], σ) := fun y6 => by
    rw [e406_90]
    by_cases c0 : y6 = 0
    · rw [if_pos c0, e406_127, b2_no (fun z => z.1 c0)]
    rw [if_neg c0]
    by_cases c1 : 1 < kd1
    · rw [if_pos c1]
      by_cases c2 : value = 0
      · rw [if_neg (fun y => y c2), e406_123, b2_yes ⟨c0, by rw [if_pos c1]; exact c2⟩]
      · rw [if_pos c2, e406_127, b2_no (fun z => c2 (by have := z.2; rw [if_pos c1] at this; exact this))]
    rw [if_neg c1]
    by_cases c2 : value < 1
    · rw [if_pos c2, e406_127, b2_no (fun z => by have := z.2; rw [if_neg c1] at this; omega)]
    rw [if_neg c2]
    by_cases c3 : 64 < value
    · rw [if_pos c3, e406_127, b2_no (fun z => by have := z.2; rw [if_neg c1] at this; omega)]
    · rw [if_neg c3, e406_123, b2_yes ⟨c0, by rw [if_neg c1]; omega⟩]
  by_cases k0 : kd1 = 0
  · rw [if_neg (fun y => y k0)]
    by_cases c : key = 4
    · rw [if_neg (fun y => y c)]
      refine ⟨1, (e90 1).trans ?_⟩
      rw [b2_c (q := shpM kd1 key value) (by rw [if_neg (by omega)]; omega)]
    · rw [if_pos c]
      refine ⟨0, (e90 0).trans ?_⟩
      rw [b2_c (q := shpM kd1 key value) ⟨fun z => absurd rfl z.1, fun z => by omega⟩]
  rw [if_pos k0]
  by_cases k1 : kd1 = 1
  · rw [if_neg (fun y => y k1)]
    by_cases c : key < 1
    · rw [if_pos c, e406_77]
      refine ⟨0, (e90 0).trans ?_⟩
      rw [b2_c (q := shpM kd1 key value) ⟨fun z => absurd rfl z.1, fun z => by omega⟩]
    rw [if_neg c]
    by_cases c2 : 16 < key
    · rw [if_pos c2, e406_77]
      refine ⟨0, (e90 0).trans ?_⟩
      rw [b2_c (q := shpM kd1 key value) ⟨fun z => absurd rfl z.1, fun z => by omega⟩]
    · rw [if_neg c2]
      refine ⟨1, (e90 1).trans ?_⟩
      rw [b2_c (q := shpM kd1 key value) (by rw [if_neg (by omega)]; omega)]
  rw [if_pos k1]
  by_cases c : key = 0
  · rw [if_neg (fun y => y c)]
    refine ⟨1, (e90 1).trans ?_⟩
    rw [b2_c (q := shpM kd1 key value) (by rw [if_pos (by omega)]; omega)]
  · rw [if_pos c]
    refine ⟨0, (e90 0).trans ?_⟩
    rw [b2_c (q := shpM kd1 key value) ⟨fun z => absurd rfl z.1, fun z => by omega⟩]
theorem T406 (hm : m < 8) (wl : wldR σ W) (h0 : gI σ 95 m = 0) (hs : shpM kd1 key value) (ht : 1 ≤ most ∧ most ≤ 16) : ∃ τ, MM 406 [mR (some 80), mI (m : Int), mI kd1, mI key, mI value, mI most] σ = some (some (mI 1), τ) ∧ wldR τ (telW W m kd1 key value most) ∧ τ.2 = σ.2 ∧ ∀ k s, ¬ ((95 ≤ k ∧ k ≤ 99) ∨ k = 106) → gI τ k s = gI σ k s := by
  have b8 : 0 ≤ (m : Int) ∧ (m : Int) < 8 := by omega
  obtain ⟨x6, hx6⟩ := L406s (σ := σ) (x := (m : Int)) (x5 := most) (kd1 := kd1) (key := key) (value := value) (by omega)
  obtain ⟨τ, t1, t2, t3⟩ := L406 (kd1 := kd1) (key := key) (value := value) (x5 := most) (x6 := b2 (shpM kd1 key value)) hm 16 0 (sI (sI (sI (sI (sI σ 95 m (1 % 2)) 96 m kd1) 97 m key) 98 m value) 99 m most) rfl
  have g : ∀ k s, gI τ k s = if k = 106 ∧ 16 * m ≤ s ∧ s < 16 * m + 16 then -1 else if k = 99 ∧ s = m then most else if k = 98 ∧ s = m then value else if k = 97 ∧ s = m then key else if k = 96 ∧ s = m then kd1 else if k = 95 ∧ s = m then 1 else gI σ k s := fun k s => by
    rw [t3, Nat.add_zero, gI_sI, gI_sI, gI_sI, gI_sI, gI_sI]
    rfl
  refine ⟨τ, ?_, ⟨fun k s p => ?_, ?_, ?_⟩, t2, fun k s p => ?_⟩
  · have e128 : RR (lkB tb406) (B406_128, [some (mR (some 80)), some (mI (m : Int)), some (mI kd1), some (mI key), some (mI value), some (mI most), some (mI x6), none], [mI (b2 (shpM kd1 key value))], σ) = some (some (mI 1), τ) := by
      rw [e406_128, b2_yes hs, if_pos n10, if_pos (by rw [g_95]; exact b8), if_pos (by rw [g_96]; exact b8), if_pos (by rw [g_97]; exact b8), Int.toNat_natCast, e406_158, if_pos (by rw [g_98]; exact b8), if_pos (by rw [g_99]; exact b8), Int.toNat_natCast]
      rw [b2_yes hs] at t1
      exact t1
    rw [M406, e406_0, T331 hm]
    simp only [Option.bind_some, Option.toList_some, Option.toList_none, List.cons_append, List.nil_append]
    rw [e406_4, if_neg n10, if_pos (by rw [g_95]; exact b8), Int.toNat_natCast, if_neg (fun y => y h0), if_neg (by omega), if_neg (by omega), if_neg (by omega), if_pos (by omega), hx6]
    exact e128
  · rw [g]
    show (if k = 106 ∧ 16 * m ≤ s ∧ s < 16 * m + 16 then -1 else if k = 99 ∧ s = m then most else if k = 98 ∧ s = m then value else if k = 97 ∧ s = m then key else if k = 96 ∧ s = m then kd1 else if k = 95 ∧ s = m then 1 else wg W k s) = _
    rw [wl.1 k s p]
  · unfold gL
    rw [t2]
    exact wl.2.1
  · unfold gL
    rw [t2]
    exact wl.2.2
  · rw [g, if_neg (by omega), if_neg (by omega), if_neg (by omega), if_neg (by omega), if_neg (by omega), if_neg (by omega)]
theorem T406n (h : (x < 0 ∨ 8 ≤ x) ∨ (∃ m : Nat, m < 8 ∧ x = (m : Int) ∧ ¬ gI σ 95 m = 0) ∨ ¬ shpM kd1 key value ∨ ¬ (1 ≤ most ∧ most ≤ 16)) : MM 406 [mR (some 80), mI x, mI kd1, mI key, mI value, mI most] σ = some (some (mI 0), σ) := by
  rw [M406, e406_0]
  by_cases c1 : x < 0 ∨ 8 ≤ x
  · rw [T331n c1]
    simp only [Option.bind_some, Option.toList_some, Option.toList_none, List.cons_append, List.nil_append]
    rw [e406_4, if_pos rfl]
  obtain ⟨m, rfl⟩ : ∃ m : Nat, x = (m : Int) := ⟨x.toNat, by omega⟩
  rw [T331 (by omega)]
  simp only [Option.bind_some, Option.toList_some, Option.toList_none, List.cons_append, List.nil_append]
  rw [e406_4, if_neg n10, if_pos (by rw [g_95]; omega), Int.toNat_natCast]
  by_cases c3 : gI σ 95 m = 0
  · rw [if_neg (fun y => y c3)]
    by_cases d1 : kd1 < 0
    · rw [if_pos d1]
    rw [if_neg d1]
    by_cases d2 : 3 < kd1
    · rw [if_pos d2]
    rw [if_neg d2]
    by_cases c4 : most < 1
    · rw [if_pos c4]
    rw [if_neg c4]
    by_cases c5 : most ≤ 16
    · have ns : ¬ shpM kd1 key value := by
        rcases h with h | ⟨m', h1, h2, h3⟩ | h | h
        · exact absurd h c1
        · have : m' = m := by omega
          rw [this] at h3
          exact absurd c3 h3
        · exact h
        · omega
      obtain ⟨x6, hx6⟩ := L406s (σ := σ) (x := (m : Int)) (x5 := most) (kd1 := kd1) (key := key) (value := value) (by omega)
      rw [if_pos c5, hx6, e406_128, b2_no ns, if_neg (fun y => y rfl)]
    · rw [if_neg c5]
  · rw [if_pos c3]
end TELL
