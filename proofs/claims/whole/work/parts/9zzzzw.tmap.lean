/-! ===== the class's maps, with keys and values from the tape ===== -/
def eqT (σ : MS) (p0 p n : Nat) : Bool := (List.range n).all fun i => decide (gI σ 28 (p0 + i) = gI σ 1 (p + i))
def entT (σ : MS) (m p : Nat) : Option Nat := (List.range (gI σ 34 m).toNat).find? fun e => eqT σ (16 * (32 * m + (gI σ 35 (16 * m + e)).toNat)) p (gI σ 31 m).toNat
def fenT (σ : MS) (m p : Nat) : Option Nat := if gI σ 30 m = 0 then (if (idxR ((tpW σ 1 p 4).map kpW) : Int) < gI σ 33 m then some (idxR ((tpW σ 1 p 4).map kpW)) else none) else entT σ m p
def vpT (σ : MS) (m c q : Nat) : MS := cpI σ 1 (q : Int) 27 ((788 + 64 * (32 * m + c) : Nat) : Int) (gI σ 32 m)
def nwT (σ : MS) (m p c : Nat) : MS := sI (sI (sI (cpI σ 1 (p : Int) 28 ((16 * (32 * m + c) : Nat) : Int) (gI σ 31 m)) 37 (32 * m + c) 1) 35 (16 * m + (gI σ 34 m).toNat) (c : Int)) 34 m (gI σ 34 m + 1)
def updT (σ : MS) (m p q : Nat) (f : Int) : MS × Int :=
  if f < 0 ∨ 2 < f then (σ, -22)
  else match fenT σ m p with
    | some e => if f = 1 then (σ, -17) else (vpT σ m (cellC σ m e) q, 0)
    | none =>
      if gI σ 30 m = 0 then (σ, -7)
      else if f = 2 then (σ, -2)
      else if gI σ 34 m = gI σ 33 m then (σ, -7)
      else match freC σ m with
        | none => (σ, -12)
        | some c => (vpT (nwT σ m p c) m c q, 0)
section TMAP
variable {σ τ ρ : MS} {W V : WR} {m n p q p0 e j i c : Nat} {L : List B64} {y k : Int} {E : EV} {φ : Nat → Nat} {x : B64}
theorem tpW_c {K : Nat} : tpW σ K p (n + 1) = byW (gI σ K p) :: tpW σ K (p + 1) n := by
  unfold tpW
  rw [List.range'_succ, List.map_cons]
/-- keys are compared -/
theorem T51t (h0 : p0 + n ≤ 4096) (h : p + n ≤ 4000) : MM 51 [mR (some 26), mI (p0 : Int), mR (some 1), mI (p : Int), mI (n : Int)] σ = some (some (mI (bI (eqT σ p0 p n))), σ) := by
  have key : ∀ (f j : Nat), j + f = n → (∀ i, i < j → gI σ 28 (p0 + i) = gI σ 1 (p + i)) → RR (lkB tb51) (B51_3, [some (mR (some 26)), some (mI (p0 : Int)), some (mR (some 1)), some (mI (p : Int)), some (mI (n : Int)), some (mI (j : Int))], [], σ) = some (some (mI (bI (eqT σ p0 p n))), σ) := by
    intro f
    induction f with
    | zero =>
      intro j z q
      have z : j = n := by omega
      subst z
      have : eqT σ p0 p j = true := List.all_eq_true.mpr fun i hi => decide_eq_true (q i (List.mem_range.mp hi))
      rw [e51_3, if_pos (Int.le_refl _), this]
      rfl
    | succ f ih =>
      intro j z q
      have nl : ¬ (n : Int) ≤ (j : Int) := by omega
      have j3 : j < 100000 := by omega
      have b1 : 0 ≤ ((p0 + j : Nat) : Int) ∧ ((p0 + j : Nat) : Int) < 4096 := by omega
      have b2 : 0 ≤ ((p + j : Nat) : Int) ∧ ((p + j : Nat) : Int) < 4000 := by omega
      have w1 : w32 ((p0 : Int) + (j : Int)) = ((p0 + j : Nat) : Int) := by
        rw [w32_i (by omega) (by omega)]
        rfl
      have w2 : w32 ((p : Int) + (j : Int)) = ((p + j : Nat) : Int) := by
        rw [w32_i (by omega) (by omega)]
        rfl
      have ww : w32 ((j : Int) + 1) = ((j + 1 : Nat) : Int) := w32_s j3
      rw [e51_3, if_neg nl]
      simp only [Option.getD_some, Option.bind_some, Option.toList_some, Option.toList_none, List.cons_append, List.nil_append, and_self, and_true, true_and, false_and, and_false, ite_self, not_true_eq_false, not_false_eq_true, reduceIte, Nat.reduceEqDiff, ab_I, ab_L, ab_R, ao_I, ao_L, ao_R, gL_sL, gI_sI, gR_sR, gI_sL, gI_sR, gL_sI, gL_sR, gR_sI, gR_sL, g_1, g_28, b1.1, b1.2, b2.1, b2.2, w1, w2, Int.toNat_natCast, ww]
      by_cases c : gI σ 28 (p0 + j) = gI σ 1 (p + j)
      · rw [if_pos c]
        exact ih (j + 1) (by omega) fun i hi => by
          by_cases q2 : i = j
          · rw [q2]; exact c
          · exact q i (by omega)
      · rw [if_neg c]
        have : eqT σ p0 p n = false := by
          cases y : eqT σ p0 p n with
          | false => rfl
          | true => exact absurd (of_decide_eq_true (List.all_eq_true.mp y j (List.mem_range.mpr (by omega)))) c
        rw [this]
        rfl
  rw [M51, e51_0]
  exact key n 0 (by omega) fun i hi => absurd hi (Nat.not_lt_zero _)
/-- a TABLE's entry -/
theorem T49tt (hm : m < 8) (h30 : ¬ gI σ 30 m = 0) (h34 : 0 ≤ gI σ 34 m ∧ gI σ 34 m ≤ 16) (h31 : 0 ≤ gI σ 31 m ∧ gI σ 31 m ≤ 16) (h35 : ∀ e : Nat, (e : Int) < gI σ 34 m → 0 ≤ gI σ 35 (16 * m + e) ∧ gI σ 35 (16 * m + e) < 32) (hp : p + (gI σ 31 m).toNat ≤ 4000) :
    MM 49 [mR (some 26), mI (m : Int), mR (some 1), mI (p : Int)] σ = some (some (mI (ioN (entT σ m p))), σ) := by
  obtain ⟨N, hN⟩ : ∃ N : Nat, N = (gI σ 34 m).toNat := ⟨_, rfl⟩
  have eN : gI σ 34 m = (N : Int) := by omega
  obtain ⟨Z, hZ⟩ : ∃ Z : Nat, Z = (gI σ 31 m).toNat := ⟨_, rfl⟩
  have eZ : gI σ 31 m = (Z : Int) := by omega
  have b0 : 0 ≤ (m : Int) ∧ (m : Int) < 8 := by omega
  have key : ∀ (f x : Nat), x + f = N → (∀ i, i < x → eqT σ (16 * (32 * m + (gI σ 35 (16 * m + i)).toNat)) p Z = false) → RR (lkB tb49) (B49_44, [some (mR (some 26)), some (mI (m : Int)), some (mR (some 1)), some (mI (p : Int)), some (mI (x : Int))], [], σ) = some (some (mI (ioN ((List.range N).find? fun e => eqT σ (16 * (32 * m + (gI σ 35 (16 * m + e)).toNat)) p Z))), σ) := by
    intro f
    induction f with
    | zero =>
      intro x z q
      have z : x = N := by omega
      subst z
      have : (List.range x).find? (fun e => eqT σ (16 * (32 * m + (gI σ 35 (16 * m + e)).toNat)) p Z) = none := List.find?_eq_none.mpr fun e he => by
        rw [q e (List.mem_range.mp he)]
        decide
      have le : (x : Int) ≤ (x : Int) := Int.le_refl _
      rw [this, e49_44]
      simp only [Option.getD_some, Option.bind_some, Option.toList_some, Option.toList_none, List.cons_append, List.nil_append, and_self, and_true, true_and, false_and, and_false, ite_self, not_true_eq_false, not_false_eq_true, reduceIte, Nat.reduceEqDiff, ab_I, ab_L, ab_R, ao_I, ao_L, ao_R, gL_sL, gI_sI, gR_sR, gI_sL, gI_sR, gL_sI, gL_sR, gR_sI, gR_sL, g_34, b0.1, b0.2, Int.toNat_natCast, eN, le, if_true]
      rfl
    | succ f ih =>
      intro x z q
      have nl : ¬ (N : Int) ≤ (x : Int) := by omega
      have x3 : x < 100000 := by omega
      have b1 : 0 ≤ ((16 * m + x : Nat) : Int) ∧ ((16 * m + x : Nat) : Int) < 128 := by omega
      have q5 := h35 x (by omega)
      obtain ⟨c, hc⟩ : ∃ c : Nat, c = (gI σ 35 (16 * m + x)).toNat := ⟨_, rfl⟩
      have ec : gI σ 35 (16 * m + x) = (c : Int) := by omega
      have t2 := T42m (σ := σ) (c := c) hm (by omega)
      have t1 := T51t (σ := σ) (p0 := 16 * (32 * m + c)) (p := p) (n := Z) (by omega) (by omega)
      have xN : x < N := by omega
      have z1 : x + 1 + f = N := by omega
      have w1 : w32 (w32 ((m : Int) * 16) + (x : Int)) = ((16 * m + x : Nat) : Int) := by
        rw [w32_i (x := (m : Int) * 16) (by omega) (by omega), w32_i (by omega) (by omega)]
        omega
      have ww : w32 ((x : Int) + 1) = ((x + 1 : Nat) : Int) := w32_s x3
      rw [e49_44]
      simp only [Option.getD_some, Option.bind_some, Option.toList_some, Option.toList_none, List.cons_append, List.nil_append, and_self, and_true, true_and, false_and, and_false, ite_self, not_true_eq_false, not_false_eq_true, reduceIte, Nat.reduceEqDiff, ab_I, ab_L, ab_R, ao_I, ao_L, ao_R, gL_sL, gI_sI, gR_sR, gI_sL, gI_sR, gL_sI, gL_sR, gR_sI, gR_sL, g_34, g_35, b0.1, b0.2, b1.1, b1.2, w1, Int.toNat_natCast, eN, nl, if_false, ec, t2, e49_72, g_31, eZ, t1, e49_83]
      cases y : eqT σ (16 * (32 * m + c)) p Z with
      | true =>
        have : (List.range N).find? (fun e => eqT σ (16 * (32 * m + (gI σ 35 (16 * m + e)).toNat)) p Z) = some x := by
          refine find_rng xN ?_ fun i hi => q i hi
          show eqT σ (16 * (32 * m + (gI σ 35 (16 * m + x)).toNat)) p Z = true
          rw [← hc]
          exact y
        rw [this]
        rw [show bI true = 1 from rfl, if_neg (by decide)]
        rfl
      | false =>
        rw [show bI false = 0 from rfl, if_pos rfl, ww]
        exact ih (x + 1) z1 fun i hi => by
          by_cases q2 : i = x
          · rw [q2, ← hc]
            exact y
          · exact q i (Nat.lt_of_le_of_ne (Nat.le_of_lt_succ hi) q2)
  have z := key N 0 (by omega) fun i hi => absurd hi (Nat.not_lt_zero _)
  have ee : entT σ m p = (List.range N).find? fun e => eqT σ (16 * (32 * m + (gI σ 35 (16 * m + e)).toNat)) p Z := by
    unfold entT
    rw [← hN, ← hZ]
  rw [ee, M49, e49_0]
  simp only [Option.getD_some, Option.bind_some, Option.toList_some, Option.toList_none, List.cons_append, List.nil_append, and_self, and_true, true_and, false_and, and_false, ite_self, not_true_eq_false, not_false_eq_true, reduceIte, Nat.reduceEqDiff, ab_I, ab_L, ab_R, ao_I, ao_L, ao_R, gL_sL, gI_sI, gR_sR, gI_sL, gI_sR, gL_sI, gL_sR, gR_sI, gR_sL, g_30, b0.1, b0.2, Int.toNat_natCast, eq_false h30, not_false_eq_true, if_true]
  exact z
/-- the index of a ROW's key -/
theorem idx_T : (leN (tpW σ 1 p 4)).toNat = idxR ((tpW σ 1 p 4).map kpW) := by
  have e : tpW σ 1 p 4 = [byW (gI σ 1 p), byW (gI σ 1 (p + 1)), byW (gI σ 1 (p + 1 + 1)), byW (gI σ 1 (p + 1 + 1 + 1))] := by
    rw [tpW_c, tpW_c, tpW_c, tpW_c]
    rfl
  have l := fun z => byW_lt z
  have m8 : ∀ z, kpW (byW z) % 256 = ((byW z).toNat : Int) := fun z => by
    have a1 : (byW (kpW (byW z))).toNat = (byW z).toNat := by rw [kpW_I (byW_lt z)]
    have a2 : (byW (kpW (byW z))).toNat = (kpW (byW z) % 256).toNat := by
      unfold byW
      rw [BitVec.toNat_ofInt]
      omega
    have : 0 ≤ kpW (byW z) % 256 := by omega
    omega
  rw [e, leN_c (l _) (by simp) (by simp [l]), leN_c (l _) (by simp) (by simp [l]), leN_c (l _) (by simp) (by simp [l]), leN_c (l _) (by simp) (by simp)]
  have z0 : (leN []).toNat = 0 := rfl
  unfold idxR
  simp only [List.map_cons, List.map_nil, List.getD_cons_zero, List.getD_cons_succ, m8, z0]
  omega
theorem T49rt (hm : m < 8) (h30 : gI σ 30 m = 0) (h33 : 0 ≤ gI σ 33 m ∧ gI σ 33 m ≤ 16) (hp : p + 4 ≤ 4000) :
    MM 49 [mR (some 26), mI (m : Int), mR (some 1), mI (p : Int)] σ = some (some (mI (ioN (if (idxR ((tpW σ 1 p 4).map kpW) : Int) < gI σ 33 m then some (idxR ((tpW σ 1 p 4).map kpW)) else none))), σ) := by
  have b0 : 0 ≤ (m : Int) ∧ (m : Int) < 8 := by omega
  have t := T16t (σ := σ) hp
  have ic := idx_T (σ := σ) (p := p)
  have lt := leN_lt (tpW σ 1 p 4) (by unfold tpW; rw [List.length_map, List.length_range']; decide) (fun y hy => by
    unfold tpW at hy
    obtain ⟨j, _, e⟩ := List.mem_map.mp hy
    rw [← e]
    exact byW_lt _)
  have ln : (tpW σ 1 p 4).length = 4 := by unfold tpW; rw [List.length_map, List.length_range']
  rw [ln] at lt
  have lw := lI_low (x := leN (tpW σ 1 p 4)) (by omega)
  obtain ⟨X, hX⟩ : ∃ X, X = leN (tpW σ 1 p 4) := ⟨_, rfl⟩
  rw [← hX] at t ic lt lw
  have nn : ¬ ¬ gI σ 30 m = 0 := not_not_intro h30
  have t4 : MM 16 [mR (some 1), mI (p : Int), mI 4] σ = some (some (mL X), σ) := t
  rw [← ic, M49, e49_0]
  simp only [Option.getD_some, Option.bind_some, Option.toList_some, Option.toList_none, List.cons_append, List.nil_append, and_self, and_true, true_and, false_and, and_false, ite_self, not_true_eq_false, not_false_eq_true, reduceIte, Nat.reduceEqDiff, ab_I, ab_L, ab_R, ao_I, ao_L, ao_R, gL_sL, gI_sI, gR_sR, gI_sL, gI_sR, gL_sI, gL_sR, gR_sI, gR_sL, g_30, b0.1, b0.2, Int.toNat_natCast, eq_true h30, not_true_eq_false, if_false, t4, e49_15, g_33, lw]
  by_cases q : (X.toNat : Int) < gI σ 33 m
  · have q1 : X.toNat < 2147483648 := by omega
    have q2 : ¬ (X.toNat : Int) < 0 := by omega
    have q3 : ¬ gI σ 33 m ≤ (X.toNat : Int) := by omega
    rw [if_pos q]
    simp only [q1, if_true, q2, if_false, q3]
    rfl
  · rw [if_neg q]
    by_cases q1 : X.toNat < 2147483648
    · have q2 : ¬ (X.toNat : Int) < 0 := by omega
      have q3 : gI σ 33 m ≤ (X.toNat : Int) := by omega
      simp only [q1, if_true, q2, if_false, q3, e49_39]
      rfl
    · have q2 : (X.toNat : Int) - 4294967296 < 0 := by omega
      simp only [q1, if_false, q2, if_true, e49_39]
      rfl
theorem T49x (hm : m < 8) (o : okmC σ m) (hp : p + (gI σ 31 m).toNat ≤ 4000) : MM 49 [mR (some 26), mI (m : Int), mR (some 1), mI (p : Int)] σ = some (some (mI (ioN (fenT σ m p))), σ) := by
  obtain ⟨o1, o2, o3, o4, o5, o6⟩ := o
  unfold fenT
  by_cases k0 : gI σ 30 m = 0
  · rw [if_pos k0]
    have := o5 k0
    exact T49rt hm k0 o4 (by omega)
  · rw [if_neg k0]
    obtain ⟨a, b⟩ := o6 (by omega)
    exact T49tt hm k0 (by omega) (by omega) b hp
theorem fen_16t (o : okmC σ m) (h : fenT σ m p = some e) : e < 16 := by
  obtain ⟨o1, o2, o3, o4, o5, o6⟩ := o
  unfold fenT at h
  by_cases k0 : gI σ 30 m = 0
  · rw [if_pos k0] at h
    split at h
    · cases h
      omega
    · cases h
  · rw [if_neg k0] at h
    have := List.mem_range.mp (List.mem_of_find?_eq_some h)
    have := (o6 (by omega)).1
    omega
/-- the last stretch: the value is put -/
theorem L52vt {x6 : B64} (hm : m < 8) (o2 : 1 ≤ gI σ 32 m ∧ gI σ 32 m ≤ 64) (he : e < 16) (h5 : ¬ gI σ 30 m = 0 → 0 ≤ gI σ 35 (16 * m + e) ∧ gI σ 35 (16 * m + e) < 32) (hq : q + (gI σ 32 m).toNat ≤ 4000) :
    RR (lkB tb52) (B52_181, [some (mR (some 26)), some (mI (m : Int)), some (mR (some 1)), some (mI (p : Int)), some (mR (some 1)), some (mI (q : Int)), some (mL x6), none, some (mI (e : Int)), none], [], σ) = some (some (mI 0), vpT σ m (cellC σ m e) q) := by
  have b0 : 0 ≤ (m : Int) ∧ (m : Int) < 8 := by omega
  have t := T50 (σ := σ) hm he h5
  have c32 : cellC σ m e < 32 := by
    unfold cellC
    split
    · omega
    · rename_i z
      have := h5 z
      omega
  have ac0 : ac σ 1 1 27 (q : Int) ((788 + 64 * (32 * m + cellC σ m e) : Nat) : Int) (gI σ 32 m) := by
    have q1 : kd σ 27 = (1, 25364) := rfl
    have q1t : kd σ 1 = (1, 4000) := rfl
    unfold ac
    rw [q1, q1t]
    refine ⟨⟨rfl, rfl⟩, by omega, ?_⟩
    show (q : Int) + gI σ 32 m ≤ 4000 ∧ ((788 + 64 * (32 * m + cellC σ m e) : Nat) : Int) + gI σ 32 m ≤ 25364
    omega
  have is1 : Option.isSome (some (1 : Nat)) = true := rfl
  have is27 : Option.isSome (some (27 : Nat)) = true := rfl
  rw [e52_181, t]
  simp only [Option.getD_some, Option.bind_some, Option.toList_some, Option.toList_none, List.cons_append, List.nil_append, and_self, and_true, true_and, false_and, and_false, ite_self, not_true_eq_false, not_false_eq_true, reduceIte, Nat.reduceEqDiff, ab_I, ab_L, ab_R, ao_I, ao_L, ao_R, gL_sL, gI_sI, gR_sR, gI_sL, gI_sR, gL_sI, gL_sR, gR_sI, gR_sL]
  rw [e52_196]
  simp only [Option.getD_some, Option.bind_some, Option.toList_some, Option.toList_none, List.cons_append, List.nil_append, and_self, and_true, true_and, false_and, and_false, ite_self, not_true_eq_false, not_false_eq_true, reduceIte, Nat.reduceEqDiff, ab_I, ab_L, ab_R, ao_I, ao_L, ao_R, gL_sL, gI_sI, gR_sR, gI_sL, gI_sR, gL_sI, gL_sR, gR_sI, gR_sL, g_32, b0.1, b0.2, Int.toNat_natCast, is1, eq_true ac0, if_true]
  rfl
theorem T52t (hm : m < 8) (o : okmC σ m) (hp : p + (gI σ 31 m).toNat ≤ 4000) (hq : q + (gI σ 32 m).toNat ≤ 4000) : MM 52 [mR (some 26), mI (m : Int), mR (some 1), mI (p : Int), mR (some 1), mI (q : Int), mL x] σ = some (some (mI (updT σ m p q x.toInt).2), (updT σ m p q x.toInt).1) := by
  have b0 : 0 ≤ (m : Int) ∧ (m : Int) < 8 := by omega
  have t49 := T49x hm o hp
  have o' := o
  obtain ⟨o1, o2, o3, o4, o5, o6⟩ := o'
  have z0 : (BitVec.ofNat 64 0).toInt = 0 := by decide
  have z2 : (iL 2).toInt = 2 := by decide
  have x1 : (x = BitVec.ofNat 64 1) = (x.toInt = 1) := propext ⟨fun z => by rw [z]; decide, fun z => BitVec.eq_of_toInt_eq (z.trans (by decide))⟩
  have x2 : (x = iL 2) = (x.toInt = 2) := propext ⟨fun z => by rw [z]; decide, fun z => BitVec.eq_of_toInt_eq (z.trans (by decide))⟩
  obtain ⟨f, hf⟩ : ∃ f, f = x.toInt := ⟨_, rfl⟩
  rw [← hf] at x1 x2
  rw [← hf, M52, e52_0, z0, z2, ← hf]
  unfold updT
  by_cases f0 : f < 0
  · rw [if_pos f0, if_pos (Or.inl f0)]
  · rw [if_neg f0]
    by_cases f2 : f ≤ 2
    · rw [if_pos f2, if_neg (show ¬ (f < 0 ∨ 2 < f) by omega), t49]
      simp only [Option.getD_some, Option.bind_some, Option.toList_some, Option.toList_none, List.cons_append, List.nil_append, and_self, and_true, true_and, false_and, and_false, ite_self, not_true_eq_false, not_false_eq_true, reduceIte, Nat.reduceEqDiff, ab_I, ab_L, ab_R, ao_I, ao_L, ao_R, gL_sL, gI_sI, gR_sR, gI_sL, gI_sR, gL_sI, gL_sR, gR_sI, gR_sL]
      cases qe : fenT σ m p with
      | some e =>
        have e16 := fen_16t o qe
        have e0 : 0 ≤ (e : Int) := by omega
        have en : ¬ (e : Int) < 0 := by omega
        have h5 : ¬ gI σ 30 m = 0 → 0 ≤ gI σ 35 (16 * m + e) ∧ gI σ 35 (16 * m + e) < 32 := fun k0 => by
          have h1 := o6 (by omega)
          refine h1.2 e ?_
          unfold fenT at qe
          rw [if_neg k0] at qe
          have := List.mem_range.mp (List.mem_of_find?_eq_some qe)
          omega
        have s45 : RR (lkB tb52) (B52_26, [some (mR (some 26)), some (mI (m : Int)), some (mR (some 1)), some (mI (p : Int)), some (mR (some 1)), some (mI (q : Int)), some (mL x), none, none, none], [mI (ioN (some e))], σ) = RR (lkB tb52) (B52_45, [some (mR (some 26)), some (mI (m : Int)), some (mR (some 1)), some (mI (p : Int)), some (mR (some 1)), some (mI (q : Int)), some (mL x), none, some (mI (e : Int)), none], [], σ) := by
          have i1 : ioN (some e) = (e : Int) := rfl
          rw [i1, e52_26]
          simp only [Option.getD_some, Option.bind_some, Option.toList_some, Option.toList_none, List.cons_append, List.nil_append, and_self, and_true, true_and, false_and, and_false, ite_self, not_true_eq_false, not_false_eq_true, reduceIte, Nat.reduceEqDiff, ab_I, ab_L, ab_R, ao_I, ao_L, ao_R, gL_sL, gI_sI, gR_sR, gI_sL, gI_sR, gL_sI, gL_sR, gR_sI, gR_sL, g_30, b0.1, b0.2, Int.toNat_natCast, e0, if_true]
        rw [s45, e52_45, if_neg en]
        by_cases f1 : f = 1
        · rw [if_neg (not_not_intro (Eq.mpr x1 f1))]
          simp only [f1, if_true]
        · rw [if_pos (fun z => f1 (Eq.mp x1 z)), e52_60, if_pos e0, e52_77, if_pos e0]
          simp only [f1, if_false]
          exact L52vt hm o3 e16 h5 hq
      | none =>
        have nn : ¬ (0 : Int) ≤ -1 := by decide
        have ng : (-1 : Int) < 0 := by decide
        have i1 : ioN none = -1 := rfl
        rw [i1, e52_26]
        by_cases k0 : gI σ 30 m = 0
        · simp only [Option.getD_some, Option.bind_some, Option.toList_some, Option.toList_none, List.cons_append, List.nil_append, and_self, and_true, true_and, false_and, and_false, ite_self, not_true_eq_false, not_false_eq_true, reduceIte, Nat.reduceEqDiff, ab_I, ab_L, ab_R, ao_I, ao_L, ao_R, gL_sL, gI_sI, gR_sR, gI_sL, gI_sR, gL_sI, gL_sR, gR_sI, gR_sL, g_30, b0.1, b0.2, Int.toNat_natCast, k0, not_true_eq_false, if_false, nn, if_true]
        · simp only [Option.getD_some, Option.bind_some, Option.toList_some, Option.toList_none, List.cons_append, List.nil_append, and_self, and_true, true_and, false_and, and_false, ite_self, not_true_eq_false, not_false_eq_true, reduceIte, Nat.reduceEqDiff, ab_I, ab_L, ab_R, ao_I, ao_L, ao_R, gL_sL, gI_sI, gR_sR, gI_sL, gI_sR, gL_sI, gL_sR, gR_sI, gR_sL, g_30, b0.1, b0.2, Int.toNat_natCast, eq_false k0, not_false_eq_true, if_true, if_false]
          rw [e52_45, if_pos ng, e52_60, if_neg nn]
          have k1 : gI σ 30 m = 1 := by omega
          obtain ⟨h34, h35⟩ := o6 k1
          by_cases f2' : f = 2
          · rw [if_neg (not_not_intro (Eq.mpr x2 f2'))]
            simp only [f2', if_true]
          · rw [if_pos (fun z => f2' (Eq.mp x2 z)), e52_77, if_neg nn]
            have t53 := T53 (σ := σ) hm
            simp only [Option.getD_some, Option.bind_some, Option.toList_some, Option.toList_none, List.cons_append, List.nil_append, and_self, and_true, true_and, false_and, and_false, ite_self, not_true_eq_false, not_false_eq_true, reduceIte, Nat.reduceEqDiff, ab_I, ab_L, ab_R, ao_I, ao_L, ao_R, gL_sL, gI_sI, gR_sR, gI_sL, gI_sR, gL_sI, gL_sR, gR_sI, gR_sL, g_33, g_34, b0.1, b0.2, Int.toNat_natCast, eq_false f2', if_false]
            by_cases full : gI σ 34 m = gI σ 33 m
            · have : ¬ gI σ 34 m < gI σ 33 m := by omega
              simp only [eq_true full, if_true, this, if_false]
            · have : gI σ 34 m < gI σ 33 m := by omega
              simp only [eq_false full, if_false, eq_true this, if_true, t53, Option.getD_some, Option.bind_some, Option.toList_some, Option.toList_none, List.cons_append, List.nil_append, and_self, and_true, true_and, false_and, and_false, ite_self, not_true_eq_false, not_false_eq_true, reduceIte, Nat.reduceEqDiff, ab_I, ab_L, ab_R, ao_I, ao_L, ao_R, gL_sL, gI_sI, gR_sR, gI_sL, gI_sR, gL_sI, gL_sR, gR_sI, gR_sL]
              cases qf : freC σ m with
              | none =>
                rw [i1, e52_105]
                simp only [nn, if_false]
              | some c =>
                obtain ⟨c32, _⟩ := fre_32 qf
                have c0 : 0 ≤ (c : Int) := by omega
                have t42 := T42m (σ := σ) (c := c) hm c32
                have i2 : ioN (some c) = (c : Int) := rfl
                obtain ⟨N, hN⟩ : ∃ N : Nat, N = (gI σ 34 m).toNat := ⟨_, rfl⟩
                have eN : gI σ 34 m = (N : Int) := by omega
                rw [i2, e52_105, if_pos c0, t42]
                simp only [Option.getD_some, Option.bind_some, Option.toList_some, Option.toList_none, List.cons_append, List.nil_append, and_self, and_true, true_and, false_and, and_false, ite_self, not_true_eq_false, not_false_eq_true, reduceIte, Nat.reduceEqDiff, ab_I, ab_L, ab_R, ao_I, ao_L, ao_R, gL_sL, gI_sI, gR_sR, gI_sL, gI_sR, gL_sI, gL_sR, gR_sI, gR_sL]
                have b28 : ac σ 1 1 28 (p : Int) ((16 * (32 * m + c) : Nat) : Int) (gI σ 31 m) := by
                  have q1 : kd σ 1 = (1, 4000) := rfl
                  have q2 : kd σ 28 = (1, 4096) := rfl
                  unfold ac
                  rw [q1, q2]
                  refine ⟨⟨rfl, rfl⟩, by omega, ?_⟩
                  show (p : Int) + gI σ 31 m ≤ 4000 ∧ ((16 * (32 * m + c) : Nat) : Int) + gI σ 31 m ≤ 4096
                  omega
                have is1 : Option.isSome (some (1 : Nat)) = true := rfl
                have is2 : Option.isSome (some (28 : Nat)) = true := rfl
                have b37 : 0 ≤ ((32 * m + c : Nat) : Int) ∧ ((32 * m + c : Nat) : Int) < 256 := by omega
                have b35 : 0 ≤ ((16 * m + N : Nat) : Int) ∧ ((16 * m + N : Nat) : Int) < 128 := by omega
                have n16 : N < 16 := by omega
                have i3 : -2147483648 ≤ (N : Int) + 1 ∧ (N : Int) + 1 < 2147483648 := by omega
                have cb : 0 ≤ (c : Int) ∧ (c : Int) < 32 := by omega
                have w1 : w32 (w32 ((m : Int) * 32) + (c : Int)) = ((32 * m + c : Nat) : Int) := by
                  rw [w32_i (x := (m : Int) * 32) (by omega) (by omega), w32_i (by omega) (by omega)]
                  omega
                have w2 : w32 (w32 ((m : Int) * 16) + (N : Int)) = ((16 * m + N : Nat) : Int) := by
                  rw [w32_i (x := (m : Int) * 16) (by omega) (by omega), w32_i (by omega) (by omega)]
                  omega
                have w3 : w32 ((N : Int) + 1) = (N : Int) + 1 := w32_i i3.1 i3.2
                obtain ⟨υ, hυ⟩ : ∃ υ, υ = sI (cpI σ 1 (p : Int) 28 ((16 * (32 * m + c) : Nat) : Int) (gI σ 31 m)) 37 (32 * m + c) 1 := ⟨_, rfl⟩
                have u34 : gI υ 34 m = (N : Int) := by
                  rw [hυ, gI_sI, if_neg (fun z => absurd z.1 (by decide)), cpI_o (by decide)]
                  exact eN
                have e127 : RR (lkB tb52) (B52_127, [some (mR (some 26)), some (mI (m : Int)), some (mR (some 1)), some (mI (p : Int)), some (mR (some 1)), some (mI (q : Int)), some (mL x), none, some (mI (-1)), some (mI (c : Int))], [mI ((16 * (32 * m + c) : Nat) : Int), mR (some 28), mI (p : Int), mR (some 1)], σ) = RR (lkB tb52) (B52_171, [some (mR (some 26)), some (mI (m : Int)), some (mR (some 1)), some (mI (p : Int)), some (mR (some 1)), some (mI (q : Int)), some (mL x), none, some (mI (N : Int)), some (mI (c : Int))], [], sI υ 35 (16 * m + N) (c : Int)) := by
                  rw [e52_127]
                  simp only [Option.getD_some, Option.bind_some, Option.toList_some, Option.toList_none, List.cons_append, List.nil_append, and_self, and_true, true_and, false_and, and_false, ite_self, not_true_eq_false, not_false_eq_true, reduceIte, Nat.reduceEqDiff, ab_I, ab_L, ab_R, ao_I, ao_L, ao_R, gL_sL, gI_sI, gR_sR, gI_sL, gI_sR, gL_sI, gL_sR, gR_sI, gR_sL, g_31, b0.1, b0.2, Int.toNat_natCast, is1, is2, eq_true b28, if_true, g_37, w1, b37.1, b37.2, show w8 1 = 1 by decide, ← hυ, u34, g_34, g_35, w2, b35.1, b35.2]
                rw [e127, e52_171]
                have v34 : gI (sI υ 35 (16 * m + N) (c : Int)) 34 m = (N : Int) := by rw [gI_sI, if_neg (fun z => absurd z.1 (by decide))]; exact u34
                simp only [Option.getD_some, Option.bind_some, Option.toList_some, Option.toList_none, List.cons_append, List.nil_append, and_self, and_true, true_and, false_and, and_false, ite_self, not_true_eq_false, not_false_eq_true, reduceIte, Nat.reduceEqDiff, ab_I, ab_L, ab_R, ao_I, ao_L, ao_R, gL_sL, gI_sI, gR_sR, gI_sL, gI_sR, gL_sI, gL_sR, gR_sI, gR_sL, g_34, b0.1, b0.2, Int.toNat_natCast, v34, w3]
                have en : sI (sI υ 35 (16 * m + N) (c : Int)) 34 m ((N : Int) + 1) = nwT σ m p c := by
                  unfold nwT
                  rw [hυ, ← hN, eN]
                rw [en]
                have gn : ∀ k s, ¬ (k = 28 ∨ k = 34 ∨ k = 35 ∨ k = 37) → gI (nwT σ m p c) k s = gI σ k s := fun k s z => by
                  unfold nwT
                  rw [gI_sI, if_neg (fun y => z (Or.inr (Or.inl y.1))), gI_sI, if_neg (fun y => z (Or.inr (Or.inr (Or.inl y.1)))), gI_sI, if_neg (fun y => z (Or.inr (Or.inr (Or.inr y.1)))), cpI_o (fun y => z (Or.inl y))]
                have g5 : gI (nwT σ m p c) 35 (16 * m + N) = (c : Int) := by
                  rw [← en, gI_sI, if_neg (fun z => absurd z.1 (by decide)), gI_sI, if_pos ⟨rfl, rfl⟩]
                have z := L52vt (σ := nwT σ m p c) (x6 := x) (p := p) hm (by rw [gn _ _ (by decide)]; exact o3) (e := N) n16 (fun _ => by rw [g5]; exact cb) (q := q) (by rw [gn _ _ (by decide)]; exact hq)
                have ce : cellC (nwT σ m p c) m N = c := by
                  unfold cellC
                  rw [gn 30 _ (by decide), if_neg k0, g5]
                  rfl
                rw [ce] at z
                exact RR_q z (by repeat (first | exact lq_nil | refine lq_cons (Or.inr rfl) ?_ | refine lq_cons (Or.inl rfl) ?_))
    · rw [if_neg f2, if_pos (Or.inr (by omega))]
/-- REMOVE -/
theorem T54t (hm : m < 8) (o : okmC σ m) (hp : p + (gI σ 31 m).toNat ≤ 4000) : ∃ τ, MM 54 [mR (some 26), mI (m : Int), mR (some 1), mI (p : Int)] σ = some (some (mI (if gI σ 30 m = 0 then -22 else match entT σ m p with | none => -2 | some _ => 0)), τ) ∧
    (gI σ 30 m = 0 ∨ entT σ m p = none → τ = σ) ∧ ∀ e, gI σ 30 m = 1 → entT σ m p = some e → (e : Int) < gI σ 34 m ∧ τ.2 = σ.2 ∧ ∀ k s, gI τ k s = if k = 34 ∧ s = m then gI σ 34 m - 1 else if k = 35 ∧ 16 * m + e ≤ s ∧ s + 1 < 16 * m + (gI σ 34 m).toNat then gI σ 35 (s + 1) else if k = 37 ∧ s = 32 * m + (gI σ 35 (16 * m + e)).toNat then 2 else if k = 26 ∧ s = 12 then 1 else gI σ k s := by
  have b0 : 0 ≤ (m : Int) ∧ (m : Int) < 8 := by omega
  have t49 := T49x hm o hp
  obtain ⟨o1, o2, o3, o4, o5, o6⟩ := o
  by_cases k0 : gI σ 30 m = 0
  · refine ⟨σ, ?_, fun _ => rfl, fun e k1 => by omega⟩
    rw [if_pos k0, M54, e54_0]
    simp only [Option.getD_some, Option.bind_some, Option.toList_some, Option.toList_none, List.cons_append, List.nil_append, and_self, and_true, true_and, false_and, and_false, ite_self, not_true_eq_false, not_false_eq_true, reduceIte, Nat.reduceEqDiff, ab_I, ab_L, ab_R, ao_I, ao_L, ao_R, gL_sL, gI_sI, gR_sR, gI_sL, gI_sR, gL_sI, gL_sR, gR_sI, gR_sL, g_30, b0.1, b0.2, Int.toNat_natCast, k0, not_true_eq_false, if_false]
  · have fe : fenT σ m p = entT σ m p := if_neg k0
    rw [fe] at t49
    rw [if_neg k0]
    cases qe : entT σ m p with
    | none =>
      have i1 : ioN none = -1 := rfl
      have nn : ¬ (0 : Int) ≤ -1 := by decide
      refine ⟨σ, ?_, fun _ => rfl, fun e _ y => by cases y⟩
      rw [qe, i1] at t49
      rw [M54, e54_0]
      simp only [Option.getD_some, Option.bind_some, Option.toList_some, Option.toList_none, List.cons_append, List.nil_append, and_self, and_true, true_and, false_and, and_false, ite_self, not_true_eq_false, not_false_eq_true, reduceIte, Nat.reduceEqDiff, ab_I, ab_L, ab_R, ao_I, ao_L, ao_R, gL_sL, gI_sI, gR_sR, gI_sL, gI_sR, gL_sI, gL_sR, gR_sI, gR_sL, g_30, b0.1, b0.2, Int.toNat_natCast, eq_false k0, not_false_eq_true, if_true, t49, e54_19, nn, if_false]
    | some e =>
      obtain ⟨h34, h35⟩ := o6 (by omega)
      have el := List.mem_range.mp (List.mem_of_find?_eq_some qe)
      have h5 := h35 e (by omega)
      obtain ⟨N, hN⟩ : ∃ N : Nat, gI σ 34 m = ((N + 1 : Nat) : Int) := ⟨(gI σ 34 m).toNat - 1, by omega⟩
      obtain ⟨c, hc⟩ : ∃ c : Nat, c = (gI σ 35 (16 * m + e)).toNat := ⟨_, rfl⟩
      have ec : gI σ 35 (16 * m + e) = (c : Int) := by omega
      obtain ⟨υ, hυ⟩ : ∃ υ, υ = sI (sI σ 37 (32 * m + c) 2) 26 12 1 := ⟨_, rfl⟩
      have gu : ∀ k s, gI υ k s = if k = 37 ∧ s = 32 * m + c then 2 else if k = 26 ∧ s = 12 then 1 else gI σ k s := fun k s => by
        rw [hυ, gI_sI, gI_sI]
        by_cases q1 : k = 37 ∧ s = 32 * m + c
        · rw [if_pos q1, if_neg (by omega), if_pos q1]
        · rw [if_neg q1, if_neg q1]
      have u34 : gI υ 34 m = ((N + 1 : Nat) : Int) := by rw [gu, if_neg (by omega), if_neg (by omega)]; exact hN
      obtain ⟨τ, t, t2, t3⟩ := T55 (e := e) hm u34 (by omega) (by omega)
      have b1 : 0 ≤ ((16 * m + e : Nat) : Int) ∧ ((16 * m + e : Nat) : Int) < 128 := by omega
      have b2 : 0 ≤ ((32 * m + c : Nat) : Int) ∧ ((32 * m + c : Nat) : Int) < 256 := by omega
      have e0 : 0 ≤ (e : Int) := by omega
      have i1 : ioN (some e) = (e : Int) := rfl
      refine ⟨τ, ?_, fun y => ?_, fun e' _ y => ?_⟩
      · have w1 : w32 (w32 ((m : Int) * 16) + (e : Int)) = ((16 * m + e : Nat) : Int) := by
          rw [w32_i (x := (m : Int) * 16) (by omega) (by omega), w32_i (by omega) (by omega)]
          omega
        have w2 : w32 (w32 ((m : Int) * 32) + (c : Int)) = ((32 * m + c : Nat) : Int) := by
          rw [w32_i (x := (m : Int) * 32) (by omega) (by omega), w32_i (by omega) (by omega)]
          omega
        have w8' : w8 2 = 2 := by decide
        rw [qe, i1] at t49
        rw [M54, e54_0]
        simp only [Option.getD_some, Option.bind_some, Option.toList_some, Option.toList_none, List.cons_append, List.nil_append, and_self, and_true, true_and, false_and, and_false, ite_self, not_true_eq_false, not_false_eq_true, reduceIte, Nat.reduceEqDiff, ab_I, ab_L, ab_R, ao_I, ao_L, ao_R, gL_sL, gI_sI, gR_sR, gI_sL, gI_sR, gL_sI, gL_sR, gR_sI, gR_sL, g_30, b0.1, b0.2, Int.toNat_natCast, eq_false k0, not_false_eq_true, if_true, t49, e54_19, e0, g_35, w1, b1.1, b1.2, ec, g_37, w2, b2.1, b2.2, w8', ← hυ, t, e54_64]
      · rcases y with y | y
        · exact absurd y k0
        · cases y
      · cases y
        refine ⟨by omega, t2.trans (by rw [hυ]; rfl), fun k s => ?_⟩
        rw [t3, hN]
        by_cases q1 : k = 34 ∧ s = m
        · rw [if_pos q1, if_pos q1]
          omega
        · rw [if_neg q1, if_neg q1]
          by_cases q2 : k = 35 ∧ 16 * m + e ≤ s ∧ s < 16 * m + N
          · rw [if_pos q2, if_pos ⟨q2.1, q2.2.1, by omega⟩, gu, if_neg (by omega), if_neg (by omega)]
          · rw [if_neg q2, if_neg (by omega), gu, ← hc]
end TMAP
