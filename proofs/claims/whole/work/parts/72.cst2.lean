/-! ===== the class's states: VALUES are written ===== -/
def flL (σ : MS) (k a : Nat) (v : B64) : Nat → MS
  | 0 => σ
  | n + 1 => sL (flL σ k a v n) k (a + n) v
/-- VALUE v has been written at a place of the state at cell k -/
def cxV (τ σ : MS) (k pl : Nat) (v : VL) : Prop := (∀ k' s, gI τ k' s = gI σ k' s) ∧ (∀ k' s, ¬ (k' = k + 1 + 0 ∧ pl ≤ s ∧ s < pl + 11) → gL τ k' s = gL σ k' s) ∧ τ.2.2 = σ.2.2 ∧ cAt τ k pl v
section CST2
variable {σ τ : MS} {k j r pl a b n L : Nat} {S : ST} {v : B64} {u : VL}
theorem fl_I {k' s : Nat} : ∀ n : Nat, gI (flL σ k a v n) k' s = gI σ k' s
  | 0 => rfl
  | n + 1 => by
    show gI (sL (flL σ k a v n) k (a + n) v) k' s = _
    rw [gI_sL]
    exact fl_I n
theorem fl_o2 {k' s : Nat} : ∀ n : Nat, ¬ (k' = k ∧ a ≤ s ∧ s < a + n) → gL (flL σ k a v n) k' s = gL σ k' s := by
  intro n
  induction n with
  | zero => intro _; rfl
  | succ n ih =>
    intro h
    show gL (sL (flL σ k a v n) k (a + n) v) k' s = _
    rw [gL_sL, if_neg (by omega)]
    exact ih (by omega)
theorem fl_v {s : Nat} : ∀ n : Nat, a ≤ s → s < a + n → gL (flL σ k a v n) k s = v := by
  intro n
  induction n with
  | zero => intro h1 h2; omega
  | succ n ih =>
    intro h1 h2
    show gL (sL (flL σ k a v n) k (a + n) v) k s = v
    rw [gL_sL]
    by_cases e : s = a + n
    · rw [if_pos ⟨rfl, e⟩]
    · rw [if_neg (fun z => e z.2)]
      exact ih h1 (by omega)
theorem fl_r : ∀ n : Nat, (flL σ k a v n).2.2 = σ.2.2
  | 0 => rfl
  | n + 1 => fl_r n
theorem kd_r (h : τ.2.2 = σ.2.2) : kd τ k = kd σ k := by
  unfold kd
  rw [h]
theorem st_r (h : τ.2.2 = σ.2.2) (q : isSt σ k) : isSt τ k := by
  unfold isSt at *
  rw [kd_r h, kd_r h, kd_r h, kd_r h]
  exact q
theorem T580 (hk : kd σ k = (4, L)) (hL : L < 90000) (h1 : a + n ≤ L) : MM 580 [mR (some k), mI (a : Int), mI ((a + n : Nat) : Int), mL v] σ = some (none, flL σ k a v n) := by
  have key : ∀ m : Nat, m ≤ n → RR (lkB tb580) (B580_10, [some (mR (some k)), some (mI (a : Int)), some (mI ((a + n : Nat) : Int)), some (mL v), none, some (mI ((a + (n - m) : Nat) : Int))], [], flL σ k a v (n - m)) = some (none, flL σ k a v n) := by
    intro m
    induction m with
    | zero =>
      intro _
      rw [e580_10, if_pos (by omega)]
      rfl
    | succ m ih =>
      intro hm
      have ih := ih (by omega)
      obtain ⟨r, hr⟩ : ∃ r, r = n - (m + 1) := ⟨_, rfl⟩
      have e1 : n - m = r + 1 := by omega
      rw [e1] at ih
      rw [← hr]
      have nl : ¬ ((a + n : Nat) : Int) ≤ ((a + r : Nat) : Int) := by omega
      have b0 : 0 ≤ ((a + r : Nat) : Int) ∧ ((a + r : Nat) : Int) < (L : Int) := by omega
      have r6 : a + r < 100000 := by omega
      have kr : kd (flL σ k a v r) k = (4, L) := (kd_r (fl_r r)).trans hk
      have e2 : flL σ k a v (r + 1) = sL (flL σ k a v r) k (a + r) v := rfl
      rw [e2] at ih
      rw [e580_10]
      simp only [Option.getD_some, Option.bind_some, Option.toList_some, Option.toList_none, List.cons_append, List.nil_append, and_self, and_true, true_and, false_and, and_false, ite_self, not_true_eq_false, not_false_eq_true, reduceIte, Nat.reduceEqDiff, ab_I, ab_L, ab_R, ao_I, ao_L, ao_R, gL_sL, gI_sI, gR_sR, gI_sL, gI_sR, gL_sI, gL_sR, gR_sI, gR_sL, nl, gdK kr, b0.1, b0.2, Int.toNat_natCast, w32_s r6]
      exact ih
  have t := key n (Nat.le_refl _)
  rw [Nat.sub_self] at t
  have c1 : (a : Int) ≤ ((a + n : Nat) : Int) := by omega
  have c2 : 0 ≤ (a : Int) := by omega
  have c3 : ((a + n : Nat) : Int) ≤ ((kd σ k).2 : Int) := by rw [hk]; show _ ≤ (L : Int); omega
  have c4 : (kd σ k).1 = 4 := by rw [hk]
  have t8 : MM 578 [mI ((kd σ k).2 : Int), mI (a : Int), mI ((a + n : Nat) : Int)] σ = some (none, σ) := by
    simp only [M578, e578_0, Option.getD_some, Option.bind_some, Option.toList_some, Option.toList_none, List.cons_append, List.nil_append, and_self, and_true, true_and, false_and, and_false, ite_self, not_true_eq_false, not_false_eq_true, reduceIte, Nat.reduceEqDiff, ab_I, ab_L, ab_R, ao_I, ao_L, ao_R, gL_sL, gI_sI, gR_sR, gI_sL, gI_sR, gL_sI, gL_sR, gR_sI, gR_sL, c1, c2, c3]
  have s10 : MM 580 [mR (some k), mI (a : Int), mI ((a + n : Nat) : Int), mL v] σ = RR (lkB tb580) (B580_10, [some (mR (some k)), some (mI (a : Int)), some (mI ((a + n : Nat) : Int)), some (mL v), none, some (mI (a : Int))], [], σ) := by
    simp only [M580, e580_0, e580_7, Option.getD_some, Option.bind_some, Option.toList_some, Option.toList_none, List.cons_append, List.nil_append, and_self, and_true, true_and, false_and, and_false, ite_self, not_true_eq_false, not_false_eq_true, reduceIte, Nat.reduceEqDiff, ab_I, ab_L, ab_R, ao_I, ao_L, ao_R, gL_sL, gI_sI, gR_sR, gI_sL, gI_sR, gL_sI, gL_sR, gR_sI, gR_sL, Option.isSome_some, c4, t8]
  rw [s10]
  exact t
theorem en_0 (i : Nat) : enV unsV i = 0#64 := by
  unfold enV
  repeat' split
  all_goals rfl
theorem T215 (h : isSt σ k) (hp : pl + 11 ≤ 1188) : okc (MM 215 [mR (some k), mI (pl : Int)] σ) none (fun τ => cxV τ σ k pl unsV ∧ τ = flL σ (k + 1 + 0) pl 0#64 11) := by
  have e : w32 ((pl : Int) + 11) = ((pl + 11 : Nat) : Int) := by
    rw [w32_i (by omega) (by omega)]
    omega
  have t := T580 (v := 0#64) (a := pl) (n := 11) h.2.1 (by decide) hp
  simp only [M215, e215_0, e215_13, Option.getD_some, Option.bind_some, Option.toList_some, Option.toList_none, List.cons_append, List.nil_append, and_self, and_true, true_and, false_and, and_false, ite_self, not_true_eq_false, not_false_eq_true, reduceIte, Nat.reduceEqDiff, ab_I, ab_L, ab_R, ao_I, ao_L, ao_R, gL_sL, gI_sI, gR_sR, gI_sL, gI_sR, gL_sI, gL_sR, gR_sI, gR_sL, aoS h, e, t]
  exact okc_s ⟨⟨fun k' s => fl_I 11, fun k' s q => fl_o2 11 q, fl_r 11, fun i hi => by rw [fl_v 11 (by omega) (by omega), en_0]⟩, rfl⟩
theorem T216 (h : isSt σ k) (ha : a + 11 ≤ 1188) (hb : b + 11 ≤ 1188) (hv : cAt σ k a u) : okc (MM 216 [mR (some k), mI (a : Int), mI (b : Int)] σ) none (fun τ => cxV τ σ k b u) := by
  have c : ac σ 4 (k + 1 + 0) (k + 1 + 0) (a : Int) (b : Int) 11 := by
    unfold ac
    rw [h.2.1]
    refine ⟨⟨rfl, rfl⟩, ⟨by omega, by omega, by omega⟩, ?_, ?_⟩
    · show _ ≤ ((1188 : Nat) : Int); omega
    · show _ ≤ ((1188 : Nat) : Int); omega
  simp only [M216, e216_0, Option.getD_some, Option.bind_some, Option.toList_some, Option.toList_none, List.cons_append, List.nil_append, and_self, and_true, true_and, false_and, and_false, ite_self, not_true_eq_false, not_false_eq_true, reduceIte, Nat.reduceEqDiff, ab_I, ab_L, ab_R, ao_I, ao_L, ao_R, gL_sL, gI_sI, gR_sR, gI_sL, gI_sR, gL_sI, gL_sR, gR_sI, gR_sL, aoS h, Option.isSome_some, eq_true c]
  refine okc_s ⟨fun k' s => rfl, fun k' s q => ?_, rfl, fun i hi => ?_⟩
  · show (if k' = k + 1 + 0 ∧ (b : Int) ≤ (s : Int) ∧ (s : Int) < (b : Int) + 11 then _ else gL σ k' s) = _
    rw [if_neg (fun z => q ⟨z.1, by omega, by omega⟩)]
  · show (if k + 1 + 0 = k + 1 + 0 ∧ (b : Int) ≤ ((b + i : Nat) : Int) ∧ ((b + i : Nat) : Int) < (b : Int) + 11 then gL σ (k + 1 + 0) ((((b + i : Nat) : Int) - (b : Int) + (a : Int)).toNat) else _) = _
    rw [if_pos ⟨rfl, by omega, by omega⟩, show (((b + i : Nat) : Int) - (b : Int) + (a : Int)).toNat = a + i by omega]
    exact hv i hi
theorem T217 {kn w t : Int} (h : isSt σ k) (hp : pl + 11 ≤ 1188) : okc (MM 217 [mR (some k), mI (pl : Int), mI kn, mL (iL w), mI t] σ) none (fun τ => cxV τ σ k pl (mkV kn w t)) := by
  have e8 : w32 ((pl : Int) + 8) = ((pl + 8 : Nat) : Int) := by
    rw [w32_i (by omega) (by omega)]
    omega
  have e10 : w32 ((pl : Int) + 10) = ((pl + 10 : Nat) : Int) := by
    clear e8
    rw [w32_i (by omega) (by omega)]
    omega
  obtain ⟨τ, e, ⟨q1, q2, q3, q4⟩, -⟩ := T215 h hp
  have hτ := st_r q3 h
  have l0 : (pl : Int) < 1188 := by clear e8 e10; omega
  have l8 : ((pl + 8 : Nat) : Int) < 1188 := by clear e8 e10; omega
  have l10 : ((pl + 10 : Nat) : Int) < 1188 := by clear e8 e10; omega
  simp only [M217, e217_0, e217_5, e217_35, Option.getD_some, Option.bind_some, Option.toList_some, Option.toList_none, List.cons_append, List.nil_append, and_self, and_true, true_and, false_and, and_false, ite_self, not_true_eq_false, not_false_eq_true, reduceIte, Nat.reduceEqDiff, ab_I, ab_L, ab_R, ao_I, ao_L, ao_R, gL_sL, gI_sI, gR_sR, gI_sL, gI_sR, gL_sI, gL_sR, gR_sI, gR_sL, aoS h, e, aoS hτ, abS hτ, e8, e10, Int.natCast_nonneg, l0, l8, l10, Int.toNat_natCast]
  clear e8 e10
  refine okc_s ⟨fun k' s => q1 k' s, fun k' s q => ?_, q3, fun i hi => ?_⟩
  · rw [gL_sL, if_neg (by omega), gL_sL, if_neg (by omega), gL_sL, if_neg (by omega)]
    exact q2 k' s q
  · have q := q4 i hi
    rw [en_0] at q
    rw [gL_sL, gL_sL, gL_sL]
    have kk : vk (mkV kn w t) = kn := rfl
    by_cases i0 : i = 0
    · subst i0
      rw [if_neg (by omega), if_neg (by omega), if_pos ⟨rfl, rfl⟩]
      rfl
    · by_cases i8 : i = 8
      · subst i8
        rw [if_neg (by omega), if_pos ⟨rfl, rfl⟩]
        rfl
      · by_cases i10 : i = 10
        · subst i10
          rw [if_pos ⟨rfl, rfl⟩]
          rfl
        · rw [if_neg (by omega), if_neg (by omega), if_neg (by omega), q]
          unfold enV
          rw [if_neg i0, if_neg i8]
          repeat' split
          all_goals first | rfl | (exfalso; omega)
theorem T218 (h : isSt σ k) (hj : isNm σ j) (hne : ¬ j = k + 1 + 0) (hp : pl + 11 ≤ 1188) : okc (MM 218 [mR (some k), mI (pl : Int), mR (some j)] σ) none (fun τ => cxV τ σ k pl (numV (rC σ j))) := by
  have e11 : w32 ((pl : Int) + 11) = ((pl + 11 : Nat) : Int) := by
    rw [w32_i (by omega) (by omega)]
    omega
  have t := T580 (v := 0#64) (a := pl) (n := 11) h.2.1 (by decide) hp
  have l0 : (pl : Int) < 1188 := by clear e11; omega
  have hτ : isSt (flL σ (k + 1 + 0) pl 0#64 11) k := st_r (fl_r 11) h
  have hjτ : isNm (flL σ (k + 1 + 0) pl 0#64 11) j := (kd_r (fl_r 11)).trans hj
  have t8 := T68 (k := j) (r := k + 1 + 0) (a := pl) (L := 1188) (σ := sL (flL σ (k + 1 + 0) pl 0#64 11) (k + 1 + 0) pl 1#64) ((kd_r (fl_r 11)).trans hj) ((kd_r (fl_r 11)).trans h.2.1) hne (by clear e11; omega) (by decide)
  have er : rC (sL (flL σ (k + 1 + 0) pl 0#64 11) (k + 1 + 0) pl 1#64) j = rC σ j := by
    have g : ∀ s, gL (sL (flL σ (k + 1 + 0) pl 0#64 11) (k + 1 + 0) pl 1#64) j s = gL σ j s := fun s => by
      rw [gL_sL, if_neg (fun z => hne z.1), fl_o2 11 (fun z => hne z.1)]
    unfold rC
    rw [g, g, g, g, g, g]
  rw [er] at t8
  simp only [M218, e218_0, e218_13, e218_29, Option.getD_some, Option.bind_some, Option.toList_some, Option.toList_none, List.cons_append, List.nil_append, and_self, and_true, true_and, false_and, and_false, ite_self, not_true_eq_false, not_false_eq_true, reduceIte, Nat.reduceEqDiff, ab_I, ab_L, ab_R, ao_I, ao_L, ao_R, gL_sL, gI_sI, gR_sR, gI_sL, gI_sR, gL_sI, gL_sR, gR_sI, gR_sL, aoS h, e11, t, aoS hτ, abS hτ, Int.natCast_nonneg, l0, Int.toNat_natCast, aoN hjτ, t8]
  clear e11
  refine okc_s ⟨fun k' s => fl_I 11, fun k' s q => ?_, fl_r 11, fun i hi => ?_⟩
  · unfold wRN
    rw [gL_sL, if_neg (by omega), gL_sL, if_neg (by omega), gL_sL, if_neg (by omega), gL_sL, if_neg (by omega), gL_sL, if_neg (by omega), gL_sL, if_neg (by omega), gL_sL, if_neg (by omega)]
    exact fl_o2 11 q
  · unfold wRN
    rw [gL_sL, gL_sL, gL_sL, gL_sL, gL_sL, gL_sL, gL_sL]
    have c : i = 0 ∨ i = 1 ∨ i = 2 ∨ i = 3 ∨ i = 4 ∨ i = 5 ∨ i = 6 ∨ 7 ≤ i := by omega
    rcases c with c | c | c | c | c | c | c | c
    · subst c
      rw [if_neg (by omega), if_neg (by omega), if_neg (by omega), if_neg (by omega), if_neg (by omega), if_neg (by omega), if_pos ⟨rfl, rfl⟩]
      rfl
    · subst c
      rw [if_neg (by omega), if_neg (by omega), if_neg (by omega), if_neg (by omega), if_neg (by omega), if_pos ⟨rfl, rfl⟩]
      rfl
    · subst c
      rw [if_neg (by omega), if_neg (by omega), if_neg (by omega), if_neg (by omega), if_pos ⟨rfl, rfl⟩]
      rfl
    · subst c
      rw [if_neg (by omega), if_neg (by omega), if_neg (by omega), if_pos ⟨rfl, rfl⟩]
      rfl
    · subst c
      rw [if_neg (by omega), if_neg (by omega), if_pos ⟨rfl, rfl⟩]
      rfl
    · subst c
      rw [if_neg (by omega), if_pos ⟨rfl, rfl⟩]
      rfl
    · subst c
      rw [if_pos ⟨rfl, rfl⟩]
      rfl
    · rw [if_neg (by omega), if_neg (by omega), if_neg (by omega), if_neg (by omega), if_neg (by omega), if_neg (by omega), if_neg (by omega), fl_v 11 (by omega) (by omega)]
      unfold enV
      rw [if_neg (by omega), if_neg (by omega), if_neg (by omega), if_neg (by omega), if_neg (by omega), if_neg (by omega), if_neg (by omega)]
      repeat' split
      all_goals rfl
end CST2
