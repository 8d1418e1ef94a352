/-! ===== the class's maps: UPDATE ===== -/
/-- a free cell -/
def freC (σ : MS) (m : Nat) : Option Nat := (List.range 32).find? fun c => decide (gI σ 37 (32 * m + c) = 0)
/-- a value comes to a cell, from the room -/
def vpC (σ : MS) (m c q : Nat) : MS := cpI σ 27 (q : Int) 27 ((788 + 64 * (32 * m + c) : Nat) : Int) (gI σ 32 m)
/-- a new entry -/
def nwC (σ : MS) (m p c : Nat) : MS := sI (sI (sI (cpI σ 27 (p : Int) 28 ((16 * (32 * m + c) : Nat) : Int) (gI σ 31 m)) 37 (32 * m + c) 1) 35 (16 * m + (gI σ 34 m).toNat) (c : Int)) 34 m (gI σ 34 m + 1)
def updC (σ : MS) (m p q : Nat) (f : Int) : MS × Int :=
  if f < 0 ∨ 2 < f then (σ, -22)
  else match fenC σ m p with
    | some e => if f = 1 then (σ, -17) else (vpC σ m (cellC σ m e) q, 0)
    | none =>
      if gI σ 30 m = 0 then (σ, -7)
      else if f = 2 then (σ, -2)
      else if gI σ 34 m = gI σ 33 m then (σ, -7)
      else match freC σ m with
        | none => (σ, -12)
        | some c => (vpC (nwC σ m p c) m c q, 0)
section CUPD
variable {σ τ ρ : MS} {W V : WR} {m n p q p0 e j i c : Nat} {L : List B64} {y k : Int} {E : EV} {φ : Nat → Nat} {x : B64}
theorem cpI_p {k0 k1 sp dp n k' s : Nat} : gI (cpI σ k0 (sp : Int) k1 (dp : Int) (n : Int)) k' s = if k' = k1 ∧ dp ≤ s ∧ s < dp + n then gI σ k0 (s - dp + sp) else gI σ k' s := by
  show (if k' = k1 ∧ (dp : Int) ≤ (s : Int) ∧ (s : Int) < (dp : Int) + (n : Int) then σ.1 k0 ((s : Int) - (dp : Int) + (sp : Int)).toNat else σ.1 k' s) = _
  by_cases q : k' = k1 ∧ dp ≤ s ∧ s < dp + n
  · rw [if_pos q, if_pos ⟨q.1, by omega, by omega⟩, show ((s : Int) - (dp : Int) + (sp : Int)).toNat = s - dp + sp by omega]
    rfl
  · rw [if_neg q, if_neg (by omega)]
    rfl
theorem cpI_o {k0 k1 k' s : Nat} {sp dp n : Int} (h : ¬ k' = k1) : gI (cpI σ k0 sp k1 dp n) k' s = gI σ k' s := by
  show (if k' = k1 ∧ dp ≤ (s : Int) ∧ (s : Int) < dp + n then σ.1 k0 ((s : Int) - dp + sp).toNat else σ.1 k' s) = _
  rw [if_neg (fun q => h q.1)]
  rfl
theorem T53 (hm : m < 8) : MM 53 [mR (some 26), mI (m : Int)] σ = some (some (mI (ioN (freC σ m))), σ) := by
  have key : ∀ (f x : Nat), x + f = 32 → (∀ i, i < x → decide (gI σ 37 (32 * m + i) = 0) = false) → RR (lkB tb53) (B53_2, [some (mR (some 26)), some (mI (m : Int)), some (mI (x : Int))], [], σ) = some (some (mI (ioN (freC σ m))), σ) := by
    intro f
    induction f with
    | zero =>
      intro x z q
      have z : x = 32 := by omega
      subst z
      have : freC σ m = none := List.find?_eq_none.mpr fun e he => by
        rw [q e (List.mem_range.mp he)]
        decide
      rw [this, e53_2, if_pos (by decide)]
      rfl
    | succ f ih =>
      intro x z q
      have nl : ¬ 32 ≤ (x : Int) := by omega
      have b1 : 0 ≤ ((32 * m + x : Nat) : Int) ∧ ((32 * m + x : Nat) : Int) < 256 := by omega
      have w1 : w32 (w32 ((m : Int) * 32) + (x : Int)) = ((32 * m + x : Nat) : Int) := by
        rw [w32_i (x := (m : Int) * 32) (by omega) (by omega), w32_i (by omega) (by omega)]
        omega
      have ww : w32 ((x : Int) + 1) = ((x + 1 : Nat) : Int) := w32_s (by omega)
      rw [e53_2, if_neg nl]
      simp only [Option.getD_some, Option.bind_some, Option.toList_some, Option.toList_none, List.cons_append, List.nil_append, and_self, and_true, true_and, false_and, and_false, ite_self, not_true_eq_false, not_false_eq_true, reduceIte, Nat.reduceEqDiff, ab_I, ab_L, ab_R, ao_I, ao_L, ao_R, gL_sL, gI_sI, gR_sR, gI_sL, gI_sR, gL_sI, gL_sR, gR_sI, gR_sL, g_37, w1, b1.1, b1.2, Int.toNat_natCast, ww]
      by_cases y : gI σ 37 (32 * m + x) = 0
      · rw [if_neg (not_not_intro y)]
        have : freC σ m = some x := find_rng (by omega) (decide_eq_true y) q
        rw [this]
        rfl
      · rw [if_pos y]
        exact ih (x + 1) (by omega) fun i hi => by
          by_cases q2 : i = x
          · rw [q2]
            exact decide_eq_false y
          · exact q i (by omega)
  rw [M53, e53_0]
  exact key 32 0 (by omega) fun i hi => absurd hi (Nat.not_lt_zero _)
theorem fre_32 (h : freC σ m = some c) : c < 32 ∧ gI σ 37 (32 * m + c) = 0 := ⟨List.mem_range.mp (List.mem_of_find?_eq_some h), by
  have q := List.find?_some h
  exact of_decide_eq_true q⟩
/-- the last stretch: the value is put -/
theorem L52v {x6 : B64} (hm : m < 8) (o2 : 1 ≤ gI σ 32 m ∧ gI σ 32 m ≤ 64) (he : e < 16) (h5 : ¬ gI σ 30 m = 0 → 0 ≤ gI σ 35 (16 * m + e) ∧ gI σ 35 (16 * m + e) < 32) (hq : q + (gI σ 32 m).toNat ≤ 25364) :
    RR (lkB tb52) (B52_181, [some (mR (some 26)), some (mI (m : Int)), some (mR (some 27)), some (mI (p : Int)), some (mR (some 27)), some (mI (q : Int)), some (mL x6), none, some (mI (e : Int)), none], [], σ) = some (some (mI 0), vpC σ m (cellC σ m e) q) := by
  have b0 : 0 ≤ (m : Int) ∧ (m : Int) < 8 := by omega
  have t := T50 (σ := σ) hm he h5
  have c32 : cellC σ m e < 32 := by
    unfold cellC
    split
    · omega
    · rename_i z
      have := h5 z
      omega
  have ac0 : ac σ 1 27 27 (q : Int) ((788 + 64 * (32 * m + cellC σ m e) : Nat) : Int) (gI σ 32 m) := by
    have q1 : kd σ 27 = (1, 25364) := rfl
    unfold ac
    rw [q1]
    refine ⟨⟨rfl, rfl⟩, by omega, ?_⟩
    show (q : Int) + gI σ 32 m ≤ 25364 ∧ ((788 + 64 * (32 * m + cellC σ m e) : Nat) : Int) + gI σ 32 m ≤ 25364
    omega
  have is1 : Option.isSome (some (27 : Nat)) = true := rfl
  rw [e52_181, t]
  simp only [Option.getD_some, Option.bind_some, Option.toList_some, Option.toList_none, List.cons_append, List.nil_append, and_self, and_true, true_and, false_and, and_false, ite_self, not_true_eq_false, not_false_eq_true, reduceIte, Nat.reduceEqDiff, ab_I, ab_L, ab_R, ao_I, ao_L, ao_R, gL_sL, gI_sI, gR_sR, gI_sL, gI_sR, gL_sI, gL_sR, gR_sI, gR_sL]
  rw [e52_196]
  simp only [Option.getD_some, Option.bind_some, Option.toList_some, Option.toList_none, List.cons_append, List.nil_append, and_self, and_true, true_and, false_and, and_false, ite_self, not_true_eq_false, not_false_eq_true, reduceIte, Nat.reduceEqDiff, ab_I, ab_L, ab_R, ao_I, ao_L, ao_R, gL_sL, gI_sI, gR_sR, gI_sL, gI_sR, gL_sI, gL_sR, gR_sI, gR_sL, g_32, b0.1, b0.2, Int.toNat_natCast, is1, eq_true ac0, if_true]
  rfl
theorem T52 (hm : m < 8) (o : okmC σ m) (hp : p + (gI σ 31 m).toNat ≤ 25364) (hq : q + (gI σ 32 m).toNat ≤ 25364) : MM 52 [mR (some 26), mI (m : Int), mR (some 27), mI (p : Int), mR (some 27), mI (q : Int), mL x] σ = some (some (mI (updC σ m p q x.toInt).2), (updC σ m p q x.toInt).1) := by
  have b0 : 0 ≤ (m : Int) ∧ (m : Int) < 8 := by omega
  have t49 := T49 hm o hp
  have o' := o
  obtain ⟨o1, o2, o3, o4, o5, o6⟩ := o'
  have z0 : (BitVec.ofNat 64 0).toInt = 0 := by decide
  have z2 : (iL 2).toInt = 2 := by decide
  have x1 : (x = BitVec.ofNat 64 1) = (x.toInt = 1) := propext ⟨fun z => by rw [z]; decide, fun z => BitVec.eq_of_toInt_eq (z.trans (by decide))⟩
  have x2 : (x = iL 2) = (x.toInt = 2) := propext ⟨fun z => by rw [z]; decide, fun z => BitVec.eq_of_toInt_eq (z.trans (by decide))⟩
  obtain ⟨f, hf⟩ : ∃ f, f = x.toInt := ⟨_, rfl⟩
  rw [← hf] at x1 x2
  rw [← hf, M52, e52_0, z0, z2, ← hf]
  unfold updC
  by_cases f0 : f < 0
  · rw [if_pos f0, if_pos (Or.inl f0)]
  · rw [if_neg f0]
    by_cases f2 : f ≤ 2
    · rw [if_pos f2, if_neg (show ¬ (f < 0 ∨ 2 < f) by omega), t49]
      simp only [Option.getD_some, Option.bind_some, Option.toList_some, Option.toList_none, List.cons_append, List.nil_append, and_self, and_true, true_and, false_and, and_false, ite_self, not_true_eq_false, not_false_eq_true, reduceIte, Nat.reduceEqDiff, ab_I, ab_L, ab_R, ao_I, ao_L, ao_R, gL_sL, gI_sI, gR_sR, gI_sL, gI_sR, gL_sI, gL_sR, gR_sI, gR_sL]
      cases qe : fenC σ m p with
      | some e =>
        have e16 := fen_16 o qe
        have e0 : 0 ≤ (e : Int) := by omega
        have en : ¬ (e : Int) < 0 := by omega
        have h5 : ¬ gI σ 30 m = 0 → 0 ≤ gI σ 35 (16 * m + e) ∧ gI σ 35 (16 * m + e) < 32 := fun k0 => by
          have h1 := o6 (by omega)
          refine h1.2 e ?_
          unfold fenC at qe
          rw [if_neg k0] at qe
          have := List.mem_range.mp (List.mem_of_find?_eq_some qe)
          omega
        have s45 : RR (lkB tb52) (B52_26, [some (mR (some 26)), some (mI (m : Int)), some (mR (some 27)), some (mI (p : Int)), some (mR (some 27)), some (mI (q : Int)), some (mL x), none, none, none], [mI (ioN (some e))], σ) = RR (lkB tb52) (B52_45, [some (mR (some 26)), some (mI (m : Int)), some (mR (some 27)), some (mI (p : Int)), some (mR (some 27)), some (mI (q : Int)), some (mL x), none, some (mI (e : Int)), none], [], σ) := by
          have i1 : ioN (some e) = (e : Int) := rfl
          rw [i1, e52_26]
          simp only [Option.getD_some, Option.bind_some, Option.toList_some, Option.toList_none, List.cons_append, List.nil_append, and_self, and_true, true_and, false_and, and_false, ite_self, not_true_eq_false, not_false_eq_true, reduceIte, Nat.reduceEqDiff, ab_I, ab_L, ab_R, ao_I, ao_L, ao_R, gL_sL, gI_sI, gR_sR, gI_sL, gI_sR, gL_sI, gL_sR, gR_sI, gR_sL, g_30, b0.1, b0.2, Int.toNat_natCast, e0, if_true]
        rw [s45, e52_45, if_neg en]
        by_cases f1 : f = 1
        · rw [if_neg (not_not_intro (Eq.mpr x1 f1))]
          simp only [f1, if_true]
        · rw [if_pos (fun z => f1 (Eq.mp x1 z)), e52_60, if_pos e0, e52_77, if_pos e0]
          simp only [f1, if_false]
          exact L52v hm o3 e16 h5 hq
      | none =>
        have nn : ¬ (0 : Int) ≤ -1 := by decide
        have ng : (-1 : Int) < 0 := by decide
        have i1 : ioN none = -1 := rfl
        rw [i1, e52_26]
        by_cases k0 : gI σ 30 m = 0
        · simp only [Option.getD_some, Option.bind_some, Option.toList_some, Option.toList_none, List.cons_append, List.nil_append, and_self, and_true, true_and, false_and, and_false, ite_self, not_true_eq_false, not_false_eq_true, reduceIte, Nat.reduceEqDiff, ab_I, ab_L, ab_R, ao_I, ao_L, ao_R, gL_sL, gI_sI, gR_sR, gI_sL, gI_sR, gL_sI, gL_sR, gR_sI, gR_sL, g_30, b0.1, b0.2, Int.toNat_natCast, k0, not_true_eq_false, if_false, nn, if_true]
        · simp only [Option.getD_some, Option.bind_some, Option.toList_some, Option.toList_none, List.cons_append, List.nil_append, and_self, and_true, true_and, false_and, and_false, ite_self, not_true_eq_false, not_false_eq_true, reduceIte, Nat.reduceEqDiff, ab_I, ab_L, ab_R, ao_I, ao_L, ao_R, gL_sL, gI_sI, gR_sR, gI_sL, gI_sR, gL_sI, gL_sR, gR_sI, gR_sL, g_30, b0.1, b0.2, Int.toNat_natCast, eq_false k0, not_false_eq_true, if_true, if_false]
          rw [e52_45, if_pos ng, e52_60, if_neg nn]
          have k1 : gI σ 30 m = 1 := by omega
          obtain ⟨h34, h35⟩ := o6 k1
          by_cases f2' : f = 2
          · rw [if_neg (not_not_intro (Eq.mpr x2 f2'))]
            simp only [f2', if_true]
          · rw [if_pos (fun z => f2' (Eq.mp x2 z)), e52_77, if_neg nn]
            have t53 := T53 (σ := σ) hm
            simp only [Option.getD_some, Option.bind_some, Option.toList_some, Option.toList_none, List.cons_append, List.nil_append, and_self, and_true, true_and, false_and, and_false, ite_self, not_true_eq_false, not_false_eq_true, reduceIte, Nat.reduceEqDiff, ab_I, ab_L, ab_R, ao_I, ao_L, ao_R, gL_sL, gI_sI, gR_sR, gI_sL, gI_sR, gL_sI, gL_sR, gR_sI, gR_sL, g_33, g_34, b0.1, b0.2, Int.toNat_natCast, eq_false f2', if_false]
            by_cases full : gI σ 34 m = gI σ 33 m
            · have : ¬ gI σ 34 m < gI σ 33 m := by omega
              simp only [eq_true full, if_true, this, if_false]
            · have : gI σ 34 m < gI σ 33 m := by omega
              simp only [eq_false full, if_false, eq_true this, if_true, t53, Option.getD_some, Option.bind_some, Option.toList_some, Option.toList_none, List.cons_append, List.nil_append, and_self, and_true, true_and, false_and, and_false, ite_self, not_true_eq_false, not_false_eq_true, reduceIte, Nat.reduceEqDiff, ab_I, ab_L, ab_R, ao_I, ao_L, ao_R, gL_sL, gI_sI, gR_sR, gI_sL, gI_sR, gL_sI, gL_sR, gR_sI, gR_sL]
              cases qf : freC σ m with
              | none =>
                rw [i1, e52_105]
                simp only [nn, if_false]
              | some c =>
                obtain ⟨c32, _⟩ := fre_32 qf
                have c0 : 0 ≤ (c : Int) := by omega
                have t42 := T42m (σ := σ) (c := c) hm c32
                have i2 : ioN (some c) = (c : Int) := rfl
                obtain ⟨N, hN⟩ : ∃ N : Nat, N = (gI σ 34 m).toNat := ⟨_, rfl⟩
                have eN : gI σ 34 m = (N : Int) := by omega
                rw [i2, e52_105, if_pos c0, t42]
                simp only [Option.getD_some, Option.bind_some, Option.toList_some, Option.toList_none, List.cons_append, List.nil_append, and_self, and_true, true_and, false_and, and_false, ite_self, not_true_eq_false, not_false_eq_true, reduceIte, Nat.reduceEqDiff, ab_I, ab_L, ab_R, ao_I, ao_L, ao_R, gL_sL, gI_sI, gR_sR, gI_sL, gI_sR, gL_sI, gL_sR, gR_sI, gR_sL]
                have b28 : ac σ 1 27 28 (p : Int) ((16 * (32 * m + c) : Nat) : Int) (gI σ 31 m) := by
                  have q1 : kd σ 27 = (1, 25364) := rfl
                  have q2 : kd σ 28 = (1, 4096) := rfl
                  unfold ac
                  rw [q1, q2]
                  refine ⟨⟨rfl, rfl⟩, by omega, ?_⟩
                  show (p : Int) + gI σ 31 m ≤ 25364 ∧ ((16 * (32 * m + c) : Nat) : Int) + gI σ 31 m ≤ 4096
                  omega
                have is1 : Option.isSome (some (27 : Nat)) = true := rfl
                have is2 : Option.isSome (some (28 : Nat)) = true := rfl
                have b37 : 0 ≤ ((32 * m + c : Nat) : Int) ∧ ((32 * m + c : Nat) : Int) < 256 := by omega
                have b35 : 0 ≤ ((16 * m + N : Nat) : Int) ∧ ((16 * m + N : Nat) : Int) < 128 := by omega
                have n16 : N < 16 := by omega
                have i3 : -2147483648 ≤ (N : Int) + 1 ∧ (N : Int) + 1 < 2147483648 := by omega
                have cb : 0 ≤ (c : Int) ∧ (c : Int) < 32 := by omega
                have w1 : w32 (w32 ((m : Int) * 32) + (c : Int)) = ((32 * m + c : Nat) : Int) := by
                  rw [w32_i (x := (m : Int) * 32) (by omega) (by omega), w32_i (by omega) (by omega)]
                  omega
                have w2 : w32 (w32 ((m : Int) * 16) + (N : Int)) = ((16 * m + N : Nat) : Int) := by
                  rw [w32_i (x := (m : Int) * 16) (by omega) (by omega), w32_i (by omega) (by omega)]
                  omega
                have w3 : w32 ((N : Int) + 1) = (N : Int) + 1 := w32_i i3.1 i3.2
                obtain ⟨υ, hυ⟩ : ∃ υ, υ = sI (cpI σ 27 (p : Int) 28 ((16 * (32 * m + c) : Nat) : Int) (gI σ 31 m)) 37 (32 * m + c) 1 := ⟨_, rfl⟩
                have u34 : gI υ 34 m = (N : Int) := by
                  rw [hυ, gI_sI, if_neg (fun z => absurd z.1 (by decide)), cpI_o (by decide)]
                  exact eN
                have e127 : RR (lkB tb52) (B52_127, [some (mR (some 26)), some (mI (m : Int)), some (mR (some 27)), some (mI (p : Int)), some (mR (some 27)), some (mI (q : Int)), some (mL x), none, some (mI (-1)), some (mI (c : Int))], [mI ((16 * (32 * m + c) : Nat) : Int), mR (some 28), mI (p : Int), mR (some 27)], σ) = RR (lkB tb52) (B52_171, [some (mR (some 26)), some (mI (m : Int)), some (mR (some 27)), some (mI (p : Int)), some (mR (some 27)), some (mI (q : Int)), some (mL x), none, some (mI (N : Int)), some (mI (c : Int))], [], sI υ 35 (16 * m + N) (c : Int)) := by
                  rw [e52_127]
                  simp only [Option.getD_some, Option.bind_some, Option.toList_some, Option.toList_none, List.cons_append, List.nil_append, and_self, and_true, true_and, false_and, and_false, ite_self, not_true_eq_false, not_false_eq_true, reduceIte, Nat.reduceEqDiff, ab_I, ab_L, ab_R, ao_I, ao_L, ao_R, gL_sL, gI_sI, gR_sR, gI_sL, gI_sR, gL_sI, gL_sR, gR_sI, gR_sL, g_31, b0.1, b0.2, Int.toNat_natCast, is1, is2, eq_true b28, if_true, g_37, w1, b37.1, b37.2, show w8 1 = 1 by decide, ← hυ, u34, g_34, g_35, w2, b35.1, b35.2]
                rw [e127, e52_171]
                have v34 : gI (sI υ 35 (16 * m + N) (c : Int)) 34 m = (N : Int) := by rw [gI_sI, if_neg (fun z => absurd z.1 (by decide))]; exact u34
                simp only [Option.getD_some, Option.bind_some, Option.toList_some, Option.toList_none, List.cons_append, List.nil_append, and_self, and_true, true_and, false_and, and_false, ite_self, not_true_eq_false, not_false_eq_true, reduceIte, Nat.reduceEqDiff, ab_I, ab_L, ab_R, ao_I, ao_L, ao_R, gL_sL, gI_sI, gR_sR, gI_sL, gI_sR, gL_sI, gL_sR, gR_sI, gR_sL, g_34, b0.1, b0.2, Int.toNat_natCast, v34, w3]
                have en : sI (sI υ 35 (16 * m + N) (c : Int)) 34 m ((N : Int) + 1) = nwC σ m p c := by
                  unfold nwC
                  rw [hυ, ← hN, eN]
                rw [en]
                have gn : ∀ k s, ¬ (k = 28 ∨ k = 34 ∨ k = 35 ∨ k = 37) → gI (nwC σ m p c) k s = gI σ k s := fun k s z => by
                  unfold nwC
                  rw [gI_sI, if_neg (fun y => z (Or.inr (Or.inl y.1))), gI_sI, if_neg (fun y => z (Or.inr (Or.inr (Or.inl y.1)))), gI_sI, if_neg (fun y => z (Or.inr (Or.inr (Or.inr y.1)))), cpI_o (fun y => z (Or.inl y))]
                have g5 : gI (nwC σ m p c) 35 (16 * m + N) = (c : Int) := by
                  rw [← en, gI_sI, if_neg (fun z => absurd z.1 (by decide)), gI_sI, if_pos ⟨rfl, rfl⟩]
                have z := L52v (σ := nwC σ m p c) (x6 := x) (p := p) hm (by rw [gn _ _ (by decide)]; exact o3) (e := N) n16 (fun _ => by rw [g5]; exact cb) (q := q) (by rw [gn _ _ (by decide)]; exact hq)
                have ce : cellC (nwC σ m p c) m N = c := by
                  unfold cellC
                  rw [gn 30 _ (by decide), if_neg k0, g5]
                  rfl
                rw [ce] at z
                exact RR_q z (by repeat (first | exact lq_nil | refine lq_cons (Or.inr rfl) ?_ | refine lq_cons (Or.inl rfl) ?_))
    · rw [if_neg f2, if_pos (Or.inr (by omega))]
end CUPD
