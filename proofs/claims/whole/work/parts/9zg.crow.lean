/-! ===== the class's maps: a ROW; where values are; any key ===== -/
section CROW
variable {σ τ ρ : MS} {W V : WR} {m n p p0 e j i c : Nat} {L : List B64} {y k : Int} {E : EV} {φ : Nat → Nat} {x : B64}
theorem leN_c {t : List B64} (hx : x.toNat < 256) (ht : t.length ≤ 7) (hy : ∀ y ∈ t, y.toNat < 256) : (leN (x :: t)).toNat = x.toNat + 256 * (leN t).toNat := by
  have lt := leN_lt t (by omega) hy
  have p : 2 ^ (8 * t.length) ≤ 2 ^ 56 := Nat.pow_le_pow_right (by decide) (by omega)
  have e1 : (leN t <<< 8).toNat = 256 * (leN t).toNat := by
    rw [BitVec.toNat_shiftLeft, Nat.shiftLeft_eq, Nat.mod_eq_of_lt (by omega), Nat.mul_comm]
  show (leN t <<< 8 ||| x).toNat = _
  rw [BitVec.toNat_or, e1]
  have := Nat.two_pow_add_eq_or_of_lt (i := 8) (b := x.toNat) (by omega) (leN t).toNat
  have e2 : 2 ^ 8 * (leN t).toNat = 256 * (leN t).toNat := rfl
  rw [e2] at this
  rw [← this]
  omega
/-- the index of a ROW's key -/
theorem idx_C : (leN (rmC σ p 4)).toNat = idxR ((rmC σ p 4).map kpW) := by
  have e : rmC σ p 4 = [byW (gI σ 27 p), byW (gI σ 27 (p + 1)), byW (gI σ 27 (p + 1 + 1)), byW (gI σ 27 (p + 1 + 1 + 1))] := by
    rw [rmC_c, rmC_c, rmC_c, rmC_c]
    rfl
  have l := fun z => byW_lt z
  have m8 : ∀ z, kpW (byW z) % 256 = ((byW z).toNat : Int) := fun z => by
    have a1 : (byW (kpW (byW z))).toNat = (byW z).toNat := by rw [kpW_I (byW_lt z)]
    have a2 : (byW (kpW (byW z))).toNat = (kpW (byW z) % 256).toNat := by
      unfold byW
      rw [BitVec.toNat_ofInt]
      omega
    have : 0 ≤ kpW (byW z) % 256 := by omega
    omega
  rw [e, leN_c (l _) (by simp) (by simp [l]), leN_c (l _) (by simp) (by simp [l]), leN_c (l _) (by simp) (by simp [l]), leN_c (l _) (by simp) (by simp)]
  have z0 : (leN []).toNat = 0 := rfl
  unfold idxR
  simp only [List.map_cons, List.map_nil, List.getD_cons_zero, List.getD_cons_succ, m8, z0]
  omega
theorem lI_low (h : x.toNat < 4294967296) : lI x = if x.toNat < 2147483648 then (x.toNat : Int) else (x.toNat : Int) - 4294967296 := by
  have t := toInt_c x
  rw [if_pos (by omega)] at t
  unfold lI w32
  rw [t, Int.bmod_def]
  split <;> split <;> omega
theorem T49r (hm : m < 8) (h30 : gI σ 30 m = 0) (h33 : 0 ≤ gI σ 33 m ∧ gI σ 33 m ≤ 16) (hp : p + 4 ≤ 25364) :
    MM 49 [mR (some 26), mI (m : Int), mR (some 27), mI (p : Int)] σ = some (some (mI (ioN (if (idxR ((rmC σ p 4).map kpW) : Int) < gI σ 33 m then some (idxR ((rmC σ p 4).map kpW)) else none))), σ) := by
  have b0 : 0 ≤ (m : Int) ∧ (m : Int) < 8 := by omega
  have t := T16r (σ := σ) hp
  have ic := idx_C (σ := σ) (p := p)
  have lt := leN_lt (rmC σ p 4) (by unfold rmC; rw [List.length_map, List.length_range']; decide) (fun y hy => by
    unfold rmC at hy
    obtain ⟨j, _, e⟩ := List.mem_map.mp hy
    rw [← e]
    exact byW_lt _)
  have ln : (rmC σ p 4).length = 4 := by unfold rmC; rw [List.length_map, List.length_range']
  rw [ln] at lt
  have lw := lI_low (x := leN (rmC σ p 4)) (by omega)
  obtain ⟨X, hX⟩ : ∃ X, X = leN (rmC σ p 4) := ⟨_, rfl⟩
  rw [← hX] at t ic lt lw
  have nn : ¬ ¬ gI σ 30 m = 0 := not_not_intro h30
  have t4 : MM 16 [mR (some 27), mI (p : Int), mI 4] σ = some (some (mL X), σ) := t
  rw [← ic, M49, e49_0]
  simp only [Option.getD_some, Option.bind_some, Option.toList_some, Option.toList_none, List.cons_append, List.nil_append, and_self, and_true, true_and, false_and, and_false, ite_self, not_true_eq_false, not_false_eq_true, reduceIte, Nat.reduceEqDiff, ab_I, ab_L, ab_R, ao_I, ao_L, ao_R, gL_sL, gI_sI, gR_sR, gI_sL, gI_sR, gL_sI, gL_sR, gR_sI, gR_sL, g_30, b0.1, b0.2, Int.toNat_natCast, eq_true h30, not_true_eq_false, if_false, t4, e49_15, g_33, lw]
  by_cases q : (X.toNat : Int) < gI σ 33 m
  · have q1 : X.toNat < 2147483648 := by omega
    have q2 : ¬ (X.toNat : Int) < 0 := by omega
    have q3 : ¬ gI σ 33 m ≤ (X.toNat : Int) := by omega
    rw [if_pos q]
    simp only [q1, if_true, q2, if_false, q3]
    rfl
  · rw [if_neg q]
    by_cases q1 : X.toNat < 2147483648
    · have q2 : ¬ (X.toNat : Int) < 0 := by omega
      have q3 : gI σ 33 m ≤ (X.toNat : Int) := by omega
      simp only [q1, if_true, q2, if_false, q3, e49_39]
      rfl
    · have q2 : (X.toNat : Int) - 4294967296 < 0 := by omega
      simp only [q1, if_false, q2, if_true, e49_39]
      rfl
/-- the cell of an entry -/
def cellC (σ : MS) (m e : Nat) : Nat := if gI σ 30 m = 0 then e else (gI σ 35 (16 * m + e)).toNat
theorem T50 (hm : m < 8) (he : e < 16) (h35 : ¬ gI σ 30 m = 0 → 0 ≤ gI σ 35 (16 * m + e) ∧ gI σ 35 (16 * m + e) < 32) : MM 50 [mR (some 26), mI (m : Int), mI (e : Int)] σ = some (some (mI ((788 + 64 * (32 * m + cellC σ m e) : Nat) : Int)), σ) := by
  have b0 : 0 ≤ (m : Int) ∧ (m : Int) < 8 := by omega
  unfold cellC
  by_cases k0 : gI σ 30 m = 0
  · have t := T41 (σ := σ) (c := e) hm (by omega)
    rw [if_pos k0, M50, e50_0]
    simp only [Option.getD_some, Option.bind_some, Option.toList_some, Option.toList_none, List.cons_append, List.nil_append, and_self, and_true, true_and, false_and, and_false, ite_self, not_true_eq_false, not_false_eq_true, reduceIte, Nat.reduceEqDiff, ab_I, ab_L, ab_R, ao_I, ao_L, ao_R, gL_sL, gI_sI, gR_sR, gI_sL, gI_sR, gL_sI, gL_sR, gR_sI, gR_sL, g_30, b0.1, b0.2, Int.toNat_natCast, k0, not_true_eq_false, if_false, e50_25, t, e50_28]
  · have h5 := h35 k0
    obtain ⟨c, hc⟩ : ∃ c : Nat, c = (gI σ 35 (16 * m + e)).toNat := ⟨_, rfl⟩
    have ec : gI σ 35 (16 * m + e) = (c : Int) := by omega
    have t := T41 (σ := σ) (c := c) hm (by omega)
    have b1 : 0 ≤ ((16 * m + e : Nat) : Int) ∧ ((16 * m + e : Nat) : Int) < 128 := by omega
    have w1 : w32 (w32 ((m : Int) * 16) + (e : Int)) = ((16 * m + e : Nat) : Int) := by
      rw [w32_i (x := (m : Int) * 16) (by omega) (by omega), w32_i (by omega) (by omega)]
      omega
    rw [if_neg k0, ← hc, M50, e50_0]
    simp only [Option.getD_some, Option.bind_some, Option.toList_some, Option.toList_none, List.cons_append, List.nil_append, and_self, and_true, true_and, false_and, and_false, ite_self, not_true_eq_false, not_false_eq_true, reduceIte, Nat.reduceEqDiff, ab_I, ab_L, ab_R, ao_I, ao_L, ao_R, gL_sL, gI_sI, gR_sR, gI_sL, gI_sR, gL_sI, gL_sR, gR_sI, gR_sL, g_30, b0.1, b0.2, Int.toNat_natCast, eq_false k0, not_false_eq_true, if_true, g_35, w1, b1.1, b1.2, ec, e50_25, t, e50_28]
/-- the entry of a key: ROW or TABLE -/
def fenC (σ : MS) (m p : Nat) : Option Nat := if gI σ 30 m = 0 then (if (idxR ((rmC σ p 4).map kpW) : Int) < gI σ 33 m then some (idxR ((rmC σ p 4).map kpW)) else none) else entC σ m p
/-- what a class's map is, as it is looked at -/
def okmC (σ : MS) (m : Nat) : Prop := (gI σ 30 m = 0 ∨ gI σ 30 m = 1) ∧ (1 ≤ gI σ 31 m ∧ gI σ 31 m ≤ 16) ∧ (1 ≤ gI σ 32 m ∧ gI σ 32 m ≤ 64) ∧ (0 ≤ gI σ 33 m ∧ gI σ 33 m ≤ 16) ∧ (gI σ 30 m = 0 → gI σ 31 m = 4) ∧ (gI σ 30 m = 1 → (0 ≤ gI σ 34 m ∧ gI σ 34 m ≤ gI σ 33 m) ∧ ∀ e : Nat, (e : Int) < gI σ 34 m → 0 ≤ gI σ 35 (16 * m + e) ∧ gI σ 35 (16 * m + e) < 32)
theorem T49 (hm : m < 8) (o : okmC σ m) (hp : p + (gI σ 31 m).toNat ≤ 25364) : MM 49 [mR (some 26), mI (m : Int), mR (some 27), mI (p : Int)] σ = some (some (mI (ioN (fenC σ m p))), σ) := by
  obtain ⟨o1, o2, o3, o4, o5, o6⟩ := o
  unfold fenC
  by_cases k0 : gI σ 30 m = 0
  · rw [if_pos k0]
    have := o5 k0
    exact T49r hm k0 o4 (by omega)
  · rw [if_neg k0]
    obtain ⟨a, b⟩ := o6 (by omega)
    exact T49t hm k0 (by omega) (by omega) b hp
theorem fen_16 (o : okmC σ m) (h : fenC σ m p = some e) : e < 16 := by
  obtain ⟨o1, o2, o3, o4, o5, o6⟩ := o
  unfold fenC at h
  by_cases k0 : gI σ 30 m = 0
  · rw [if_pos k0] at h
    split at h
    · cases h
      omega
    · cases h
  · rw [if_neg k0] at h
    have := List.mem_range.mp (List.mem_of_find?_eq_some h)
    have := (o6 (by omega)).1
    omega
/-- a key's cell, here and in the rest of the machine -/
theorem fin_eC (hm : m < 8) (o : okmC σ m) (hk : wcK σ W m) (hT : wcT σ W m) (hb : bOk σ) : finR W m ((rmC σ p (wg W 97 m).toNat).map kpW) = (fenC σ m p).map (cellC σ m) := by
  obtain ⟨o1, o2, o3, o4, o5, o6⟩ := o
  have hk' := hk
  obtain ⟨b1, b2, b3, b4, b5⟩ := hk'
  unfold finR fenC
  by_cases k0 : gI σ 30 m = 0
  · have e4 : (wg W 97 m).toNat = 4 := by rw [b3, o5 k0]; rfl
    rw [b2, if_pos k0, if_pos k0, b5, e4]
    by_cases q : (idxR ((rmC σ p 4).map kpW) : Int) < gI σ 33 m
    · rw [if_pos q]
      show some _ = some (cellC σ m _)
      unfold cellC
      rw [if_pos k0]
    · rw [if_neg q]
      rfl
  · have k1 : gI σ 30 m = 1 := by omega
    rw [b2, if_neg k0, if_neg k0, ent_e hm hk hT (b2.trans k1) hb (by omega)]
    obtain ⟨⟨a1, a2⟩, a3, _⟩ := hT (b2.trans k1)
    cases q : entR W m ((rmC σ p (wg W 97 m).toNat).map kpW) with
    | none => rfl
    | some e =>
      show some _ = some (cellC σ m e)
      unfold cellC
      rw [if_neg k0]
      unfold entR at q
      have := List.mem_range.mp (List.mem_of_find?_eq_some q)
      have ae := (a3 e (by omega)).1.1
      show some (wg W 103 (16 * m + e)).toNat = _
      rw [ae]
end CROW
