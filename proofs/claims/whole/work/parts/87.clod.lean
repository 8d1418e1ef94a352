/-! ===== the class's loads ===== -/
section CLOD
variable {τ σ ρ : MS} {k j pl : Nat} {E : EV} {w : B64} {S : ST} {t a b n z : Int} {v : VL}
theorem wp7 {pl : Nat} (h : pl + 7 < 100000) : w32 ((pl : Int) + 7) = ((pl + 7 : Nat) : Int) := w_pl (c := 7) h
theorem wp8 {pl : Nat} (h : pl + 8 < 100000) : w32 ((pl : Int) + 8) = ((pl + 8 : Nat) : Int) := w_pl (c := 8) h
theorem wp9 {pl : Nat} (h : pl + 9 < 100000) : w32 ((pl : Int) + 9) = ((pl + 9 : Nat) : Int) := w_pl (c := 9) h
theorem wp10 {pl : Nat} (h : pl + 10 < 100000) : w32 ((pl : Int) + 10) = ((pl + 10 : Nat) : Int) := w_pl (c := 10) h
theorem b2_eq {p q : Prop} {dp : Decidable p} [dq : Decidable q] (h : p = q) : @b2 p dp = @b2 q dq := by
  subst h
  rw [Subsingleton.elim dp dq]
theorem T5 : MM 5 [mI (fOp w)] σ = some (some (mI ((bytN w : Nat) : Int)), σ) := by
  have f := fld_rng w
  have r : fB w = 0 ∨ fB w = 1 ∨ fB w = 2 ∨ fB w = 3 := by unfold fB; omega
  rcases r with c | c | c | c
  · have e : iAnd (fOp w) 24 = 0 := by rw [m24, c]; rfl
    simp only [M5, e5_0, Option.getD_some, Option.bind_some, Option.toList_some, Option.toList_none, List.cons_append, List.nil_append, and_self, and_true, true_and, false_and, and_false, ite_self, not_true_eq_false, not_false_eq_true, reduceIte, Nat.reduceEqDiff, ab_I, ab_L, ab_R, ao_I, ao_L, ao_R, gL_sL, gI_sI, gR_sR, gI_sL, gI_sR, gL_sI, gL_sR, gR_sI, gR_sL, e, bytN, c]
    rfl
  · have e : iAnd (fOp w) 24 = 8 := by rw [m24, c]; rfl
    simp only [M5, e5_0, Option.getD_some, Option.bind_some, Option.toList_some, Option.toList_none, List.cons_append, List.nil_append, and_self, and_true, true_and, false_and, and_false, ite_self, not_true_eq_false, not_false_eq_true, reduceIte, Nat.reduceEqDiff, ab_I, ab_L, ab_R, ao_I, ao_L, ao_R, gL_sL, gI_sI, gR_sR, gI_sL, gI_sR, gL_sI, gL_sR, gR_sI, gR_sL, e, bytN, c, Int.reduceEq]
    rfl
  · have e : iAnd (fOp w) 24 = 16 := by rw [m24, c]; rfl
    simp only [M5, e5_0, Option.getD_some, Option.bind_some, Option.toList_some, Option.toList_none, List.cons_append, List.nil_append, and_self, and_true, true_and, false_and, and_false, ite_self, not_true_eq_false, not_false_eq_true, reduceIte, Nat.reduceEqDiff, ab_I, ab_L, ab_R, ao_I, ao_L, ao_R, gL_sL, gI_sI, gR_sR, gI_sL, gI_sR, gL_sI, gL_sR, gR_sI, gR_sL, e, bytN, c, Int.reduceEq]
    rfl
  · have e : iAnd (fOp w) 24 = 24 := by rw [m24, c]; rfl
    simp only [M5, e5_0, Option.getD_some, Option.bind_some, Option.toList_some, Option.toList_none, List.cons_append, List.nil_append, and_self, and_true, true_and, false_and, and_false, ite_self, not_true_eq_false, not_false_eq_true, reduceIte, Nat.reduceEqDiff, ab_I, ab_L, ab_R, ao_I, ao_L, ao_R, gL_sL, gI_sI, gR_sR, gI_sL, gI_sR, gL_sI, gL_sR, gR_sI, gR_sL, e, bytN, c, Int.reduceEq]
    rfl
theorem iLn (x : Int) : -(iL x) = iL (-x) := (BitVec.ofInt_neg).symm
theorem T254 (H : SC σ k j E w) (hp : pl + 11 ≤ 1188) (hv : cAt σ k pl v) (hz : -100000 ≤ z ∧ z ≤ 100000) : MM 254 [mR (some 40), mI (pl : Int), mL (iL a), mL (iL n), mL (iL z)] σ = some (some (mI (b2 (0 ≤ (iL a + jA (vn v)).toInt ∧ (iL a + jB (vn v) + iL n).toInt ≤ z))), σ) := by
  have k1 := sc_k H
  have w3 : w32 ((pl : Int) + 3) = ((pl + 3 : Nat) : Int) := w_pl (c := 3) (by omega)
  have w4 : w32 ((pl : Int) + 4) = ((pl + 4 : Nat) : Int) := w_pl (c := 4) (by omega)
  have g3 := gSt k1 (show pl + 3 < 1188 by omega)
  have g4 := gSt k1 (show pl + 4 < 1188 by omega)
  have z0 : BitVec.toInt (BitVec.ofNat 64 0) = 0 := rfl
  have ez : (iL z).toInt = z := iLt (by omega) (by omega)
  by_cases c1 : (iL a + jA (vn v)).toInt < 0
  · rw [b2_no (fun y => absurd y.1 (by omega))]
    simp only [M254, e254_0, e254_44, Option.getD_some, Option.bind_some, Option.toList_some, Option.toList_none, List.cons_append, List.nil_append, and_self, and_true, true_and, false_and, and_false, ite_self, not_true_eq_false, not_false_eq_true, reduceIte, Nat.reduceEqDiff, ab_I, ab_L, ab_R, ao_I, ao_L, ao_R, gL_sL, gI_sI, gR_sR, gI_sL, gI_sR, gL_sI, gL_sR, gR_sI, gR_sL, sc_h H, sc_ao H, w3, g3, Int.toNat_natCast, rd_3 hv, z0, eq_true c1]
  · by_cases c2 : z < (iL a + jB (vn v) + iL n).toInt
    · rw [b2_no (fun y => absurd y.2 (by omega))]
      simp only [M254, e254_0, e254_44, Option.getD_some, Option.bind_some, Option.toList_some, Option.toList_none, List.cons_append, List.nil_append, and_self, and_true, true_and, false_and, and_false, ite_self, not_true_eq_false, not_false_eq_true, reduceIte, Nat.reduceEqDiff, ab_I, ab_L, ab_R, ao_I, ao_L, ao_R, gL_sL, gI_sI, gR_sR, gI_sL, gI_sR, gL_sI, gL_sR, gR_sI, gR_sL, sc_h H, sc_ao H, w3, w4, g3, g4, Int.toNat_natCast, rd_3 hv, rd_4 hv, z0, c1, ez, eq_true c2]
    · rw [b2_yes ⟨by omega, by omega⟩]
      simp only [M254, e254_0, Option.getD_some, Option.bind_some, Option.toList_some, Option.toList_none, List.cons_append, List.nil_append, and_self, and_true, true_and, false_and, and_false, ite_self, not_true_eq_false, not_false_eq_true, reduceIte, Nat.reduceEqDiff, ab_I, ab_L, ab_R, ao_I, ao_L, ao_R, gL_sL, gI_sI, gR_sR, gI_sL, gI_sR, gL_sI, gL_sR, gR_sI, gR_sL, sc_h H, sc_ao H, w3, w4, g3, g4, Int.toNat_natCast, rd_3 hv, rd_4 hv, z0, c1, ez, c2]
theorem T253 {g : Nat} (H : SC σ k j E w) (hp : pl + 11 ≤ 1188) (hv : cAt σ k pl v) (wv : okW v) (ov : okV E g t v) (mv : mvs v) (hb : -40000 ≤ b ∧ b ≤ 40000) (hn : 0 ≤ n ∧ n ≤ 1000) : MM 253 [mR (some 40), mI (pl : Int), mL (iL b), mL (iL n)] σ = some (some (mI (b2 (room E v b n))), σ) := by
  have k1 := sc_k H
  have w7 : w32 ((pl : Int) + 7) = ((pl + 7 : Nat) : Int) := w_pl (c := 7) (by omega)
  have w8 : w32 ((pl : Int) + 8) = ((pl + 8 : Nat) : Int) := w_pl (c := 8) (by omega)
  have w9 : w32 ((pl : Int) + 9) = ((pl + 9 : Nat) : Int) := w_pl (c := 9) (by omega)
  have g7 := gSt k1 (show pl + 7 < 1188 by omega)
  have g8 := gSt k1 (show pl + 8 < 1188 by omega)
  have g9 := gSt k1 (show pl + 9 < 1188 by omega)
  have t14 := T214 k1 (show pl < 1188 by omega) hv wv.1
  have wo := wv.2.2.2.1
  have wr := wv.2.2.2.2.1
  have ww := wv.2.2.1
  have r7 : gL σ (k + 1 + 0) (pl + 7) + iL b = iL (vo v + b) := by rw [rd_7 hv, iLa]
  have s28 : MM 253 [mR (some 40), mI (pl : Int), mL (iL b), mL (iL n)] σ = RR (lkB tb253) (B253_28, [some (mR (some 40)), some (mI (pl : Int)), some (mL (iL b)), none, some (mL (iL n)), none, some (mR (some (k + 1 + 0))), some (mL (iL (vo v + b))), none], [mI (vk v)], σ) := by
    simp only [M253, e253_0, Option.getD_some, Option.bind_some, Option.toList_some, Option.toList_none, List.cons_append, List.nil_append, and_self, and_true, true_and, false_and, and_false, ite_self, not_true_eq_false, not_false_eq_true, reduceIte, Nat.reduceEqDiff, ab_I, ab_L, ab_R, ao_I, ao_L, ao_R, gL_sL, gI_sI, gR_sR, gI_sL, gI_sR, gL_sI, gL_sR, gR_sI, gR_sL, sc_h H, sc_ao H, w7, g7, Int.toNat_natCast, r7, t14]
  have c128 : (BitVec.toInt (iL (vo v + b)) < BitVec.toInt (iL (-128))) = (vo v + b < -128) := by rw [iLt (by omega) (by omega), iLt (by decide) (by decide)]
  have cn : (BitVec.toInt (iL 128) < BitVec.toInt (iL n)) = (128 < n) := by rw [iLt (by decide) (by decide), iLt (by omega) (by omega)]
  have cm : (BitVec.toInt (-(iL n)) < BitVec.toInt (iL (vo v + b))) = (-n < vo v + b) := by rw [iLn, iLt (by omega) (by omega), iLt (by omega) (by omega)]
  rcases mv with m | m | m | m
  · have er : room E v b n = (-128 ≤ vo v + b ∧ vo v + b ≤ -n) := if_pos m
    rw [m] at s28
    rw [s28]
    by_cases d1 : vo v + b < -128
    · rw [b2_no (p := room E v b n) (by rw [er]; omega)]
      simp only [e253_28, e253_95, Option.getD_some, Option.bind_some, Option.toList_some, Option.toList_none, List.cons_append, List.nil_append, and_self, and_true, true_and, false_and, and_false, ite_self, not_true_eq_false, not_false_eq_true, reduceIte, Nat.reduceEqDiff, ab_I, ab_L, ab_R, ao_I, ao_L, ao_R, gL_sL, gI_sI, gR_sR, gI_sL, gI_sR, gL_sI, gL_sR, gR_sI, gR_sL, c128, eq_true d1]
    · by_cases d2 : 128 < n
      · rw [b2_no (p := room E v b n) (by rw [er]; omega)]
        simp only [e253_28, e253_95, Option.getD_some, Option.bind_some, Option.toList_some, Option.toList_none, List.cons_append, List.nil_append, and_self, and_true, true_and, false_and, and_false, ite_self, not_true_eq_false, not_false_eq_true, reduceIte, Nat.reduceEqDiff, ab_I, ab_L, ab_R, ao_I, ao_L, ao_R, gL_sL, gI_sI, gR_sR, gI_sL, gI_sR, gL_sI, gL_sR, gR_sI, gR_sL, c128, d1, cn, eq_true d2]
      · by_cases d3 : -n < vo v + b
        · rw [b2_no (p := room E v b n) (by rw [er]; omega)]
          simp only [e253_28, e253_95, Option.getD_some, Option.bind_some, Option.toList_some, Option.toList_none, List.cons_append, List.nil_append, and_self, and_true, true_and, false_and, and_false, ite_self, not_true_eq_false, not_false_eq_true, reduceIte, Nat.reduceEqDiff, ab_I, ab_L, ab_R, ao_I, ao_L, ao_R, gL_sL, gI_sI, gR_sR, gI_sL, gI_sR, gL_sI, gL_sR, gR_sI, gR_sL, c128, d1, cn, d2, cm, eq_true d3]
        · rw [b2_yes (p := room E v b n) (by rw [er]; omega)]
          simp only [e253_28, Option.getD_some, Option.bind_some, Option.toList_some, Option.toList_none, List.cons_append, List.nil_append, and_self, and_true, true_and, false_and, and_false, ite_self, not_true_eq_false, not_false_eq_true, reduceIte, Nat.reduceEqDiff, ab_I, ab_L, ab_R, ao_I, ao_L, ao_R, gL_sL, gI_sI, gR_sR, gI_sL, gI_sR, gL_sI, gL_sR, gR_sI, gR_sL, c128, d1, cn, d2, cm, d3]
  · have er : room E v b n = (0 ≤ (iL (vo v + b) + jA (vn v)).toInt ∧ (iL (vo v + b) + jB (vn v) + iL n).toInt ≤ E.2.2 (vw v).toNat) := by
      unfold room
      rw [if_neg (by omega), if_neg (by omega), if_pos m]
      rfl
    have o5 := ov.2.2.2.2.1 (Or.inl m)
    have lw : lI (iL (vw v)) = vw v := lIi (by omega) (by omega)
    have a7 : iAnd (vw v) 7 = vw v := by rw [iAnd7]; omega
    have b7 : 0 ≤ vw v ∧ vw v < 8 := by omega
    have ce := (H.2.2.2.1 (vw v).toNat (by omega)).2.1
    have t54 := T254 (a := vo v + b) (n := n) (z := E.2.2 (vw v).toNat) H hp hv (by omega)
    rw [m] at s28
    rw [s28, b2_eq er]
    simp only [e253_28, e253_155, Option.getD_some, Option.bind_some, Option.toList_some, Option.toList_none, List.cons_append, List.nil_append, and_self, and_true, true_and, false_and, and_false, ite_self, not_true_eq_false, not_false_eq_true, reduceIte, Nat.reduceEqDiff, ab_I, ab_L, ab_R, ao_I, ao_L, ao_R, gL_sL, gI_sI, gR_sR, gI_sL, gI_sR, gL_sI, gL_sR, gR_sI, gR_sL, Int.reduceEq, w8, g8, Int.toNat_natCast, rd_8 hv, lw, a7, g_32, b7.1, b7.2, ce, t54, bl_b2]
  · have er : room E v b n = (0 ≤ vo v + b ∧ vo v + b + n ≤ vr v) := by
      unfold room
      rw [if_neg (by omega), if_pos m]
    have z0 : BitVec.toInt (BitVec.ofNat 64 0) = 0 := rfl
    have eo : BitVec.toInt (iL (vo v + b)) = vo v + b := iLt (by omega) (by omega)
    have es : (BitVec.toInt (iL (vr v)) < BitVec.toInt (iL (vo v + b) + iL n)) = (vr v < vo v + b + n) := by rw [iLa, iLt (by omega) (by omega), iLt (by omega) (by omega)]
    have r9 : gL σ (k + 1 + 0) (pl + 9) = iL (vr v) := by rw [rd_9 hv wv.2.2.2.2.2, if_neg (by omega)]
    rw [m] at s28
    rw [s28]
    by_cases d1 : vo v + b < 0
    · rw [b2_no (p := room E v b n) (by rw [er]; omega)]
      simp only [e253_28, e253_124, Option.getD_some, Option.bind_some, Option.toList_some, Option.toList_none, List.cons_append, List.nil_append, and_self, and_true, true_and, false_and, and_false, ite_self, not_true_eq_false, not_false_eq_true, reduceIte, Nat.reduceEqDiff, ab_I, ab_L, ab_R, ao_I, ao_L, ao_R, gL_sL, gI_sI, gR_sR, gI_sL, gI_sR, gL_sI, gL_sR, gR_sI, gR_sL, Int.reduceEq, z0, eo, eq_true d1]
    · by_cases d2 : vr v < vo v + b + n
      · rw [b2_no (p := room E v b n) (by rw [er]; omega)]
        simp only [e253_28, e253_124, Option.getD_some, Option.bind_some, Option.toList_some, Option.toList_none, List.cons_append, List.nil_append, and_self, and_true, true_and, false_and, and_false, ite_self, not_true_eq_false, not_false_eq_true, reduceIte, Nat.reduceEqDiff, ab_I, ab_L, ab_R, ao_I, ao_L, ao_R, gL_sL, gI_sI, gR_sR, gI_sL, gI_sR, gL_sI, gL_sR, gR_sI, gR_sL, Int.reduceEq, z0, eo, d1, w9, g9, Int.toNat_natCast, r9, es, eq_true d2]
      · rw [b2_yes (p := room E v b n) (by rw [er]; omega)]
        simp only [e253_28, Option.getD_some, Option.bind_some, Option.toList_some, Option.toList_none, List.cons_append, List.nil_append, and_self, and_true, true_and, false_and, and_false, ite_self, not_true_eq_false, not_false_eq_true, reduceIte, Nat.reduceEqDiff, ab_I, ab_L, ab_R, ao_I, ao_L, ao_R, gL_sL, gI_sI, gR_sR, gI_sL, gI_sR, gL_sI, gL_sR, gR_sI, gR_sL, Int.reduceEq, z0, eo, d1, w9, g9, Int.toNat_natCast, r9, es, d2]
  · have er : room E v b n = (0 ≤ (iL (vo v + b) + jA (vn v)).toInt ∧ (iL (vo v + b) + jB (vn v) + iL n).toInt ≤ vw v) := by
      unfold room
      rw [if_neg (by omega), if_neg (by omega), if_neg (by omega)]
      rfl
    have t54 := T254 (a := vo v + b) (n := n) (z := vw v) H hp hv (by omega)
    rw [m] at s28
    rw [s28, b2_eq er]
    simp only [e253_28, e253_172, Option.getD_some, Option.bind_some, Option.toList_some, Option.toList_none, List.cons_append, List.nil_append, and_self, and_true, true_and, false_and, and_false, ite_self, not_true_eq_false, not_false_eq_true, reduceIte, Nat.reduceEqDiff, ab_I, ab_L, ab_R, ao_I, ao_L, ao_R, gL_sL, gI_sI, gR_sR, gI_sL, gI_sR, gL_sI, gL_sR, gR_sI, gR_sL, Int.reduceEq, w8, g8, Int.toNat_natCast, rd_8 hv, t54, bl_b2]
/-- the load's answer comes to D -/
theorem L255w {m : N6} (H : SC σ k j E w) (hS : CSt σ k S) (P : PX S E t) (ht : gI σ 40 8 = t) (hd : fD w ≤ 9) {L : List (Option MV)} {o : Option Rs} (h : (∀ τ' : MS, MM 241 [mR (some 40)] (wC σ 42 m) = some (some (mI ((pR S (dR w) : Nat) : Int)), wC σ 42 m) → MM 218 [mR (some k), mI ((pR S (dR w) : Nat) : Int), mR (some 42)] (wC σ 42 m) = some (none, τ') → gR (wC σ 42 m) 40 1 = some k → ao (wC σ 42 m) 8 (some k) = True → o = some (some (mI 0), τ'))) : okc o (some (mI 0)) (fun τ => spo σ τ k j 0 (wV S (dR w) (numV m)) (gI σ 40 4) t) := by
  have F := PX_F P
  have q1 : nfq (wC σ 42 m) σ := nfq_w (by omega)
  have H1 := SC_n q1 H
  have S1 := CSt_n (sc_c H) q1 hS
  have hd' : dR w ≤ 9 := by have := dR_9 hd; omega
  have sc := sc_c H
  obtain ⟨τ, t18, q18⟩ := T218 (j := 42) (pl := pR S (dR w)) (sc_k H1) (kc_42 (wC σ 42 m)) (by omega) (pR_lt F (by omega))
  rw [rC_wC, if_pos rfl] at q18
  have sp := spo_w (j := j) H hS F hd' q1 q18
  rw [ht] at sp
  exact okc_o (h τ (T241 H1 S1 F (by omega)) t18 (sc_h H1) (sc_ao H1)) sp
theorem T256 (H : SC σ k j E w) (hS : CSt σ k S) (P : PX S E t) (ht : gI σ 40 8 = t) (hd : fD w ≤ 9) : okc (MM 256 [mR (some 40), mI (fO w)] σ) (some (mI (if 0 ≤ fO w ∧ fO w ≤ 16 ∧ fO w % 4 = 0 then 0 else 9))) (fun τ => spo σ τ k j (if 0 ≤ fO w ∧ fO w ≤ 16 ∧ fO w % 4 = 0 then 0 else 9) (wV S (dR w) (if fO w ≤ 4 then mkV (if fO w = 0 then 7 else 8) 0 0 else numV (wideN 4))) (gI σ 40 4) t) := by
  have F := PX_F P
  have hd' : dR w ≤ 9 := by have := dR_9 hd; omega
  have t41 := T241 H hS F (show fD w ≤ 10 by omega)
  have l := pR_lt F (show dR w ≤ 10 by omega)
  have mk : ∀ kn : Int, ∃ τ, MM 217 [mR (some k), mI ((pR S (dR w) : Nat) : Int), mI kn, mL (BitVec.ofNat 64 0), mI 0] σ = some (none, τ) ∧ spo σ τ k j 0 (wV S (dR w) (mkV kn 0 0)) (gI σ 40 4) t := fun kn => by
    obtain ⟨τ, t17, q17⟩ := T217 (kn := kn) (w := 0) (t := 0) (sc_k H) l
    have sp := spo_w (j := j) H hS F hd' (nfq_r σ) q17
    rw [ht] at sp
    exact ⟨τ, t17, sp⟩
  have num : ∀ o : Option Rs, (∀ τ' : MS, MM 241 [mR (some 40)] (wC σ 42 (wideN 4)) = some (some (mI ((pR S (dR w) : Nat) : Int)), wC σ 42 (wideN 4)) → MM 218 [mR (some k), mI ((pR S (dR w) : Nat) : Int), mR (some 42)] (wC σ 42 (wideN 4)) = some (none, τ') → gR (wC σ 42 (wideN 4)) 40 1 = some k → ao (wC σ 42 (wideN 4)) 8 (some k) = True → o = some (some (mI 0), τ')) → okc o (some (mI 0)) (fun τ => spo σ τ k j 0 (wV S (dR w) (numV (wideN 4))) (gI σ 40 4) t) := fun o h => L255w H hS P ht hd (L := []) h
  have t63 : MM 63 [mR (some 42), mI 4] σ = some (none, wC σ 42 (wideN 4)) := T63 (n := 4) (kc_42 σ) (by decide)
  by_cases c0 : fO w = 0
  · obtain ⟨τ, e, sp⟩ := mk 7
    rw [if_pos (show 0 ≤ fO w ∧ fO w ≤ 16 ∧ fO w % 4 = 0 by omega), if_pos (show fO w ≤ 4 by omega), if_pos c0]
    refine okc_o (τ := τ) ?_ sp
    simp only [M256, e256_0, e256_60, e256_67, Option.getD_some, Option.bind_some, Option.toList_some, Option.toList_none, List.cons_append, List.nil_append, and_self, and_true, true_and, false_and, and_false, ite_self, not_true_eq_false, not_false_eq_true, reduceIte, Nat.reduceEqDiff, ab_I, ab_L, ab_R, ao_I, ao_L, ao_R, gL_sL, gI_sI, gR_sR, gI_sL, gI_sR, gL_sI, gL_sR, gR_sI, gR_sL, c0, t41, sc_h H, sc_ao H, e]
  · by_cases c4 : fO w = 4
    · obtain ⟨τ, e, sp⟩ := mk 8
      rw [if_pos (show 0 ≤ fO w ∧ fO w ≤ 16 ∧ fO w % 4 = 0 by omega), if_pos (show fO w ≤ 4 by omega), if_neg c0]
      refine okc_o (τ := τ) ?_ sp
      simp only [M256, e256_0, e256_77, e256_84, Option.getD_some, Option.bind_some, Option.toList_some, Option.toList_none, List.cons_append, List.nil_append, and_self, and_true, true_and, false_and, and_false, ite_self, not_true_eq_false, not_false_eq_true, reduceIte, Nat.reduceEqDiff, ab_I, ab_L, ab_R, ao_I, ao_L, ao_R, gL_sL, gI_sI, gR_sR, gI_sL, gI_sR, gL_sI, gL_sR, gR_sI, gR_sL, c4, Int.reduceEq, t41, sc_h H, sc_ao H, e]
    · by_cases c8 : fO w = 8 ∨ fO w = 12 ∨ fO w = 16
      · rw [if_pos (show 0 ≤ fO w ∧ fO w ≤ 16 ∧ fO w % 4 = 0 by omega), if_neg (show ¬ fO w ≤ 4 by omega)]
        rcases c8 with c | c | c
        · refine num _ fun τ' a1 a2 a3 a4 => ?_
          simp only [M256, e256_0, e256_94, e256_102, e256_109, Option.getD_some, Option.bind_some, Option.toList_some, Option.toList_none, List.cons_append, List.nil_append, and_self, and_true, true_and, false_and, and_false, ite_self, not_true_eq_false, not_false_eq_true, reduceIte, Nat.reduceEqDiff, ab_I, ab_L, ab_R, ao_I, ao_L, ao_R, gL_sL, gI_sI, gR_sR, gI_sL, gI_sR, gL_sI, gL_sR, gR_sI, gR_sL, c, Int.reduceEq, t63, a1, a2, a3, a4]
        · refine num _ fun τ' a1 a2 a3 a4 => ?_
          simp only [M256, e256_0, e256_94, e256_102, e256_109, Option.getD_some, Option.bind_some, Option.toList_some, Option.toList_none, List.cons_append, List.nil_append, and_self, and_true, true_and, false_and, and_false, ite_self, not_true_eq_false, not_false_eq_true, reduceIte, Nat.reduceEqDiff, ab_I, ab_L, ab_R, ao_I, ao_L, ao_R, gL_sL, gI_sI, gR_sR, gI_sL, gI_sR, gL_sI, gL_sR, gR_sI, gR_sL, c, Int.reduceEq, t63, a1, a2, a3, a4]
        · refine num _ fun τ' a1 a2 a3 a4 => ?_
          simp only [M256, e256_0, e256_94, e256_102, e256_109, Option.getD_some, Option.bind_some, Option.toList_some, Option.toList_none, List.cons_append, List.nil_append, and_self, and_true, true_and, false_and, and_false, ite_self, not_true_eq_false, not_false_eq_true, reduceIte, Nat.reduceEqDiff, ab_I, ab_L, ab_R, ao_I, ao_L, ao_R, gL_sL, gI_sI, gR_sR, gI_sL, gI_sR, gL_sI, gL_sR, gR_sI, gR_sL, c, Int.reduceEq, t63, a1, a2, a3, a4]
      · have d8 : ¬ fO w = 8 := fun z => c8 (Or.inl z)
        have d12 : ¬ fO w = 12 := fun z => c8 (Or.inr (Or.inl z))
        have d16 : ¬ fO w = 16 := fun z => c8 (Or.inr (Or.inr z))
        rw [if_neg (show ¬ (0 ≤ fO w ∧ fO w ≤ 16 ∧ fO w % 4 = 0) by omega)]
        refine okc_o (τ := σ) ?_ (spo_e (by decide))
        simp only [M256, e256_0, Option.getD_some, Option.bind_some, Option.toList_some, Option.toList_none, List.cons_append, List.nil_append, and_self, and_true, true_and, false_and, and_false, ite_self, not_true_eq_false, not_false_eq_true, reduceIte, Nat.reduceEqDiff, ab_I, ab_L, ab_R, ao_I, ao_L, ao_R, gL_sL, gI_sI, gR_sR, gI_sL, gI_sR, gL_sI, gL_sR, gR_sI, gR_sL, c0, c4, d8, d12, d16]
theorem T255 (H : SC σ k j E w) (hS : CSt σ k S) (P : PX S E t) (ht : gI σ 40 8 = t) (hw : okMem w) (hl : fL w = 1) : okc (MM 255 [mR (some 40)] σ) (some (mI (lodV E S w).1)) (fun τ => spo σ τ k j (lodV E S w).1 (wV S (dR w) (lodV E S w).2) (gI σ 40 4) t) := by
  have F := PX_F P
  unfold okMem at hw
  rw [if_pos hl] at hw
  obtain ⟨hM, hd, hs, -⟩ := hw
  have hd' : dR w ≤ 9 := by have := dR_9 hd; omega
  have hs' := sR_10 hs
  have l := pR_lt F hs'
  have hv := cAt_rg hS F.1 hs'
  have wv := okW_r P hs'
  have ov := rV_ok P.1 hs'
  have bn := bytN_c w
  have fo := fO_r w
  have t42 := T242 H hS F hs
  have t41 := T241 H hS F (show fD w ≤ 10 by omega)
  have t14 := T214r H hS P hs'
  have fof := okV_f P.1 hs'
  unfold lodV
  generalize hV : rgV S (sRr w) = v at *
  have l7 : pR S (sRr w) + 7 < 1188 := by omega
  have l8 : pR S (sRr w) + 8 < 1188 := by omega
  have w7 : w32 (((pR S (sRr w) : Nat) : Int) + 7) = ((pR S (sRr w) + 7 : Nat) : Int) := w_pl (c := 7) (Nat.lt_trans l7 (by decide))
  have w8 : w32 (((pR S (sRr w) : Nat) : Int) + 8) = ((pR S (sRr w) + 8 : Nat) : Int) := w_pl (c := 8) (Nat.lt_trans l8 (by decide))
  have g7 := gSt (sc_k H) l7
  have g8 := gSt (sc_k H) l8
  have s50 : MM 255 [mR (some 40)] σ = RR (lkB tb255) (B255_50, [some (mR (some 40)), some (mI ((pR S (sRr w) : Nat) : Int)), some (mI (vk v)), some (mI ((bytN w : Nat) : Int)), some (mI (fO w)), none, none, none, none, none, none], [mI (b2 (fM w = 128))], σ) := by
    by_cases s : fM w = 128
    · simp only [M255, e255_0, e255_4, e255_13, e255_21, e255_29, Option.getD_some, Option.bind_some, Option.toList_some, Option.toList_none, List.cons_append, List.nil_append, and_self, and_true, true_and, false_and, and_false, ite_self, not_true_eq_false, not_false_eq_true, reduceIte, Nat.reduceEqDiff, ab_I, ab_L, ab_R, ao_I, ao_L, ao_R, gL_sL, gI_sI, gR_sR, gI_sL, gI_sR, gL_sI, gL_sR, gR_sI, gR_sL, t42, sc_h H, sc_ao H, t14, sc_p H, T5, sc_w H, T3, m224, s, b2_yes trivial]
    · simp only [M255, e255_0, e255_4, e255_13, e255_21, e255_29, Option.getD_some, Option.bind_some, Option.toList_some, Option.toList_none, List.cons_append, List.nil_append, and_self, and_true, true_and, false_and, and_false, ite_self, not_true_eq_false, not_false_eq_true, reduceIte, Nat.reduceEqDiff, ab_I, ab_L, ab_R, ao_I, ao_L, ao_R, gL_sL, gI_sI, gR_sR, gI_sL, gI_sR, gL_sI, gL_sR, gR_sI, gR_sL, t42, sc_h H, sc_ao H, t14, sc_p H, T5, sc_w H, T3, m224, s, b2_no not_false]
  rw [s50]
  by_cases c0 : vk v = 0
  · rw [if_pos c0]
    refine okc_o (τ := σ) ?_ (spo_e (by show ¬ (3 : Int) = 0; decide))
    simp only [e255_50, Option.getD_some, Option.bind_some, Option.toList_some, Option.toList_none, List.cons_append, List.nil_append, and_self, and_true, true_and, false_and, and_false, ite_self, not_true_eq_false, not_false_eq_true, reduceIte, Nat.reduceEqDiff, ab_I, ab_L, ab_R, ao_I, ao_L, ao_R, gL_sL, gI_sI, gR_sR, gI_sL, gI_sR, gL_sI, gL_sR, gR_sI, gR_sL, c0]
  · rw [if_neg c0]
    by_cases mb : isMb v
    · have n2 : ¬ vk v = 2 := by have mb : vk v = 6 ∨ vk v = 10 := mb; omega
      have pf : plcF v = 14 := if_pos mb
      rw [if_neg n2, pf, if_pos (by decide)]
      refine okc_o (τ := σ) ?_ (spo_e (by show ¬ (14 : Int) = 0; decide))
      have mb' : vk v = 6 ∨ vk v = 10 := mb
      simp only [e255_50, e255_62, Option.getD_some, Option.bind_some, Option.toList_some, Option.toList_none, List.cons_append, List.nil_append, and_self, and_true, true_and, false_and, and_false, ite_self, not_true_eq_false, not_false_eq_true, reduceIte, Nat.reduceEqDiff, ab_I, ab_L, ab_R, ao_I, ao_L, ao_R, gL_sL, gI_sI, gR_sR, gI_sL, gI_sR, gL_sI, gL_sR, gR_sI, gR_sL, c0, T244, b2_0', mb']
    · have mb' : ¬ (vk v = 6 ∨ vk v = 10) := mb
      by_cases c2 : vk v = 2
      · rw [if_pos c2]
        by_cases o97 : fOp w = 97
        · obtain ⟨τ, t56, q56⟩ := T256 H hS P ht hd
          have s : RR (lkB tb255) (B255_50, [some (mR (some 40)), some (mI ((pR S (sRr w) : Nat) : Int)), some (mI (vk v)), some (mI ((bytN w : Nat) : Int)), some (mI (fO w)), none, none, none, none, none, none], [mI (b2 (fM w = 128))], σ) = some (some (mI (if 0 ≤ fO w ∧ fO w ≤ 16 ∧ fO w % 4 = 0 then 0 else 9)), τ) := by
            simp only [e255_50, e255_62, e255_88, Option.getD_some, Option.bind_some, Option.toList_some, Option.toList_none, List.cons_append, List.nil_append, and_self, and_true, true_and, false_and, and_false, ite_self, not_true_eq_false, not_false_eq_true, reduceIte, Nat.reduceEqDiff, ab_I, ab_L, ab_R, ao_I, ao_L, ao_R, gL_sL, gI_sI, gR_sR, gI_sL, gI_sR, gL_sI, gL_sR, gR_sI, gR_sL, c2, Int.reduceEq, T244, or_self, b2_no not_false, sc_p H, o97, t56]
          rw [s]
          by_cases g : 0 ≤ fO w ∧ fO w ≤ 16 ∧ fO w % 4 = 0
          · rw [if_pos g] at q56 ⊢
            rw [if_neg (not_not_intro ⟨o97, g⟩)]
            by_cases o4 : fO w ≤ 4
            · rw [if_pos o4] at q56 ⊢
              exact okc_s q56
            · rw [if_neg o4] at q56 ⊢
              exact okc_s q56
          · rw [if_neg g] at q56 ⊢
            rw [if_pos (fun z => g z.2)]
            exact okc_s ⟨q56.1, fun z => absurd (show (9 : Int) = 0 from z) (by decide)⟩
        · rw [if_pos (fun z => o97 z.1)]
          refine okc_o (τ := σ) ?_ (spo_e (by show ¬ (9 : Int) = 0; decide))
          simp only [e255_50, e255_62, Option.getD_some, Option.bind_some, Option.toList_some, Option.toList_none, List.cons_append, List.nil_append, and_self, and_true, true_and, false_and, and_false, ite_self, not_true_eq_false, not_false_eq_true, reduceIte, Nat.reduceEqDiff, ab_I, ab_L, ab_R, ao_I, ao_L, ao_R, gL_sL, gI_sI, gR_sR, gI_sL, gI_sR, gL_sI, gL_sR, gR_sI, gR_sL, c2, Int.reduceEq, T244, or_self, b2_no not_false, sc_p H, o97]
      · rw [if_neg c2]
        by_cases mv : mvs v
        · have pf : plcF v = 0 := by
            unfold plcF
            rw [if_neg mb, if_neg (not_not_intro mv)]
          rw [pf, if_neg (by decide)]
          have mv' : vk v = 3 ∨ vk v = 5 ∨ vk v = 7 ∨ vk v = 9 := mv
          have t53 := T253 (b := fO w) (n := ((bytN w : Nat) : Int)) H l hv wv ov mv (by omega) (by omega)
          have s113 : RR (lkB tb255) (B255_50, [some (mR (some 40)), some (mI ((pR S (sRr w) : Nat) : Int)), some (mI (vk v)), some (mI ((bytN w : Nat) : Int)), some (mI (fO w)), none, none, none, none, none, none], [mI (b2 (fM w = 128))], σ) = RR (lkB tb255) (B255_113, [some (mR (some 40)), some (mI ((pR S (sRr w) : Nat) : Int)), some (mI (vk v)), some (mI ((bytN w : Nat) : Int)), some (mI (fO w)), some (mI (b2 (fM w = 128))), none, none, none, none, none], [mI (b2 (room E v (fO w) ((bytN w : Nat) : Int)))], σ) := by
            simp only [e255_50, e255_62, e255_98, Option.getD_some, Option.bind_some, Option.toList_some, Option.toList_none, List.cons_append, List.nil_append, and_self, and_true, true_and, false_and, and_false, ite_self, not_true_eq_false, not_false_eq_true, reduceIte, Nat.reduceEqDiff, ab_I, ab_L, ab_R, ao_I, ao_L, ao_R, gL_sL, gI_sI, gR_sR, gI_sL, gI_sR, gL_sI, gL_sR, gR_sI, gR_sL, c0, T244, b2_0', mb', c2, T245, b2_n', mv', t53]
          rw [s113]
          by_cases rm : room E v (fO w) ((bytN w : Nat) : Int)
          · rw [if_neg (not_not_intro rm), b2_yes rm]
            -- the number that comes
            have fin : ∀ xs : List (Option MV), (∀ L : List (Option MV), True) → okc (RR (lkB tb255) (B255_208, [some (mR (some 40)), some (mI ((pR S (sRr w) : Nat) : Int)), some (mI (vk v)), some (mI ((bytN w : Nat) : Int)), some (mI (fO w)), some (mI (b2 (fM w = 128))), none, none, none, none, none], [], σ)) (some (mI (if fM w = 128 then ((0 : Int), numV (tdN (sgnN (8 * bytN w)))) else (0, numV (wideN (bytN w)))).1)) (fun τ => spo σ τ k j (if fM w = 128 then ((0 : Int), numV (tdN (sgnN (8 * bytN w)))) else (0, numV (wideN (bytN w)))).1 (wV S (dR w) (if fM w = 128 then ((0 : Int), numV (tdN (sgnN (8 * bytN w)))) else (0, numV (wideN (bytN w)))).2) (gI σ 40 4) t) := fun _ _ => by
              by_cases s : fM w = 128
              · rw [if_pos s, b2_yes s]
                have t89 := T89 (σ := σ) (k := 42) (b := 8 * bytN w) (kc_42 σ) (by omega)
                have e8 : w32 (8 * ((bytN w : Nat) : Int)) = ((8 * bytN w : Nat) : Int) := by
                  rw [w32_i (by omega) (by omega)]
                  omega
                have td : tdN (sgnN (8 * bytN w)) = sgnN (8 * bytN w) := by
                  rcases bn with q | q | q | q
                  · rw [q]; decide +kernel
                  · rw [q]; decide +kernel
                  · rw [q]; decide +kernel
                  · rw [q]; decide +kernel
                rw [td]
                refine L255w H hS P ht hd (L := []) fun τ' a1 a2 a3 a4 => ?_
                simp only [e255_208, e255_224, e255_235, e255_243, e255_250, Option.getD_some, Option.bind_some, Option.toList_some, Option.toList_none, List.cons_append, List.nil_append, and_self, and_true, true_and, false_and, and_false, ite_self, not_true_eq_false, not_false_eq_true, reduceIte, Nat.reduceEqDiff, ab_I, ab_L, ab_R, ao_I, ao_L, ao_R, gL_sL, gI_sI, gR_sR, gI_sL, gI_sR, gL_sI, gL_sR, gR_sI, gR_sL, oneI, e8, t89, a1, a2, a3, a4]
              · rw [if_neg s, b2_no s]
                have t63 := T63 (σ := σ) (k := 42) (n := bytN w) (kc_42 σ) (by omega)
                refine L255w H hS P ht hd (L := []) fun τ' a1 a2 a3 a4 => ?_
                simp only [e255_208, e255_235, e255_243, e255_250, Option.getD_some, Option.bind_some, Option.toList_some, Option.toList_none, List.cons_append, List.nil_append, and_self, and_true, true_and, false_and, and_false, ite_self, not_true_eq_false, not_false_eq_true, reduceIte, Nat.reduceEqDiff, ab_I, ab_L, ab_R, ao_I, ao_L, ao_R, gL_sL, gI_sI, gR_sR, gI_sL, gI_sR, gL_sI, gL_sR, gR_sI, gR_sL, t63, a1, a2, a3, a4]
            by_cases k3 : vk v = 3
            · have ff := fof k3
              have rm' : -128 ≤ vo v + fO w ∧ vo v + fO w ≤ -((bytN w : Nat) : Int) := by
                unfold room at rm
                rwa [if_pos k3] at rm
              obtain ⟨f, hf⟩ : ∃ f, f = (vw v).toNat := ⟨_, rfl⟩
              obtain ⟨b, hb⟩ : ∃ b, b = (vo v + fO w + 128).toNat := ⟨_, rfl⟩
              have ef : vw v = (f : Int) := by omega
              have eb : vo v + fO w + 128 = (b : Int) := by omega
              have fF : f < sF S := by omega
              have mb8 : ((vo v + fO w + 128) % 8 = 0) = (b % 8 = 0) := by
                apply propext
                omega
              have b8 : (((bytN w : Nat) : Int) = 8) = (bytN w = 8) := by
                apply propext
                omega
              rw [← hf, ← hb]
              have r7 : gL σ (k + 1 + 0) (pR S (sRr w) + 7) + iL (fO w) = iL (vo v + fO w) := by rw [rd_7 hv, iLa]
              have r8 : gL σ (k + 1 + 0) (pR S (sRr w) + 8) = iL (f : Int) := by rw [rd_8 hv, ef]
              have pk : 26 * f + 10 + b / 8 < 26 * sF S := by omega
              have t23 := T223 (f := f) (b := b) (a := vo v + fO w) (c := ((bytN w : Nat) : Int)) (sc_k H) hS F.2 fF eb (by omega) (okW_S P.1 P.2.1 P.2.2.1 P.2.2.2 pk).1
              have s167 : RR (lkB tb255) (B255_113, [some (mR (some 40)), some (mI ((pR S (sRr w) : Nat) : Int)), some (mI (vk v)), some (mI ((bytN w : Nat) : Int)), some (mI (fO w)), some (mI (b2 (fM w = 128))), none, none, none, none, none], [mI 1], σ) = RR (lkB tb255) (B255_167, [some (mR (some 40)), some (mI ((pR S (sRr w) : Nat) : Int)), some (mI (vk v)), some (mI ((bytN w : Nat) : Int)), some (mI (fO w)), some (mI (b2 (fM w = 128))), some (mL (iL (f : Int))), none, some (mL (iL (vo v + fO w))), none, none], [mI (if (((bytN w : Nat) : Int) = 8 ∧ b % 8 = 0) ∧ ¬ vk (sV S (26 * f + 10 + b / 8)) = 0 then ((297 * f + 121 + 11 * (b / 8) : Nat) : Int) else -1)], σ) := by
                simp only [e255_113, Option.getD_some, Option.bind_some, Option.toList_some, Option.toList_none, List.cons_append, List.nil_append, and_self, and_true, true_and, false_and, and_false, ite_self, not_true_eq_false, not_false_eq_true, reduceIte, Nat.reduceEqDiff, ab_I, ab_L, ab_R, ao_I, ao_L, ao_R, gL_sL, gI_sI, gR_sR, gI_sL, gI_sR, gL_sI, gL_sR, gR_sI, gR_sL, oneI, k3, sc_h H, sc_ao H, w7, w8, g7, g8, Int.toNat_natCast, r7, r8, t23]
              rw [s167]
              by_cases wh : (bytN w = 8 ∧ b % 8 = 0) ∧ ¬ vk (sV S (26 * f + 10 + b / 8)) = 0
              · rw [if_pos (show vk v = 3 ∧ (bytN w = 8 ∧ (vo v + fO w + 128) % 8 = 0) ∧ ¬ vk (sV S (26 * f + 10 + b / 8)) = 0 from ⟨k3, ⟨wh.1.1, by rw [mb8]; exact wh.1.2⟩, wh.2⟩), if_pos (show (((bytN w : Nat) : Int) = 8 ∧ b % 8 = 0) ∧ ¬ vk (sV S (26 * f + 10 + b / 8)) = 0 from ⟨⟨by rw [b8]; exact wh.1.1, wh.1.2⟩, wh.2⟩)]
                have nn : ¬ ((297 * f + 121 + 11 * (b / 8) : Nat) : Int) < 0 := by omega
                obtain ⟨τ, t16, q16⟩ := T216 (a := 297 * f + 121 + 11 * (b / 8)) (b := pR S (dR w)) (sc_k H) (by omega) (pR_lt F (by omega)) (hS.2.2.2.1 f (b / 8) fF (by omega))
                have sp := spo_w (j := j) H hS F hd' (nfq_r σ) q16
                rw [ht] at sp
                refine okc_o (τ := τ) ?_ sp
                simp only [e255_167, e255_184, e255_187, Option.getD_some, Option.bind_some, Option.toList_some, Option.toList_none, List.cons_append, List.nil_append, and_self, and_true, true_and, false_and, and_false, ite_self, not_true_eq_false, not_false_eq_true, reduceIte, Nat.reduceEqDiff, ab_I, ab_L, ab_R, ao_I, ao_L, ao_R, gL_sL, gI_sI, gR_sR, gI_sL, gI_sR, gL_sI, gL_sR, gR_sI, gR_sL, nn, t41, sc_h H, sc_ao H, t16]
              · rw [if_neg (show ¬ (vk v = 3 ∧ (bytN w = 8 ∧ (vo v + fO w + 128) % 8 = 0) ∧ ¬ vk (sV S (26 * f + 10 + b / 8)) = 0) from fun z => wh ⟨⟨z.2.1.1, by rw [← mb8]; exact z.2.1.2⟩, z.2.2⟩), if_neg (show ¬ ((((bytN w : Nat) : Int) = 8 ∧ b % 8 = 0) ∧ ¬ vk (sV S (26 * f + 10 + b / 8)) = 0) from fun z => wh ⟨⟨by rw [← b8]; exact z.1.1, z.1.2⟩, z.2⟩)]
                have t26 := T226 (f := f) (b := b) (n := bytN w) (a := vo v + fO w) (sc_k H) hS P.2.1 (fun i hi => (okW_S P.1 P.2.1 P.2.2.1 P.2.2.2 hi).1) F.2 fF eb (by omega)
                have m1 : (-1 : Int) < 0 := by decide
                by_cases ar : areS S f b (bytN w) = true
                · rw [if_neg (show ¬ (vk v = 3 ∧ areS S f b (bytN w) = false) from fun z => by rw [ar] at z; cases z.2)]
                  rw [b2_yes ar] at t26
                  simp only [e255_167, e255_202, Option.getD_some, Option.bind_some, Option.toList_some, Option.toList_none, List.cons_append, List.nil_append, and_self, and_true, true_and, false_and, and_false, ite_self, not_true_eq_false, not_false_eq_true, reduceIte, Nat.reduceEqDiff, ab_I, ab_L, ab_R, ao_I, ao_L, ao_R, gL_sL, gI_sI, gR_sR, gI_sL, gI_sR, gL_sI, gL_sR, gR_sI, gR_sL, m1, sc_h H, sc_ao H, t26, oneI]
                  exact okc_q (by repeat (first | exact lq_nil | refine lq_cons (Or.inr rfl) ?_ | refine lq_cons (Or.inl rfl) ?_)) (fin [] (fun _ => trivial))
                · have ar' : areS S f b (bytN w) = false := by simpa using ar
                  rw [if_pos (show vk v = 3 ∧ areS S f b (bytN w) = false from ⟨k3, ar'⟩)]
                  rw [b2_no ar] at t26
                  refine okc_o (τ := σ) ?_ (spo_e (by show ¬ (6 : Int) = 0; decide))
                  simp only [e255_167, e255_202, Option.getD_some, Option.bind_some, Option.toList_some, Option.toList_none, List.cons_append, List.nil_append, and_self, and_true, true_and, false_and, and_false, ite_self, not_true_eq_false, not_false_eq_true, reduceIte, Nat.reduceEqDiff, ab_I, ab_L, ab_R, ao_I, ao_L, ao_R, gL_sL, gI_sI, gR_sR, gI_sL, gI_sR, gL_sI, gL_sR, gR_sI, gR_sL, m1, sc_h H, sc_ao H, t26]
            · rw [if_neg (fun z => k3 z.1), if_neg (fun z => k3 z.1)]
              simp only [e255_113, Option.getD_some, Option.bind_some, Option.toList_some, Option.toList_none, List.cons_append, List.nil_append, and_self, and_true, true_and, false_and, and_false, ite_self, not_true_eq_false, not_false_eq_true, reduceIte, Nat.reduceEqDiff, ab_I, ab_L, ab_R, ao_I, ao_L, ao_R, gL_sL, gI_sI, gR_sR, gI_sL, gI_sR, gL_sI, gL_sR, gR_sI, gR_sL, oneI, k3]
              exact fin [] (fun _ => trivial)
          · rw [if_pos rm, b2_no rm]
            refine okc_o (τ := σ) ?_ (spo_e (by show ¬ (5 : Int) = 0; decide))
            simp only [e255_113, Option.getD_some, Option.bind_some, Option.toList_some, Option.toList_none, List.cons_append, List.nil_append, and_self, and_true, true_and, false_and, and_false, ite_self, not_true_eq_false, not_false_eq_true, reduceIte, Nat.reduceEqDiff, ab_I, ab_L, ab_R, ao_I, ao_L, ao_R, gL_sL, gI_sI, gR_sR, gI_sL, gI_sR, gL_sI, gL_sR, gR_sI, gR_sL]
        · have pf : plcF v = 4 := by
            unfold plcF
            rw [if_neg mb, if_pos mv]
          have mv' : ¬ (vk v = 3 ∨ vk v = 5 ∨ vk v = 7 ∨ vk v = 9) := mv
          rw [pf, if_pos (by decide)]
          refine okc_o (τ := σ) ?_ (spo_e (by show ¬ (4 : Int) = 0; decide))
          simp only [e255_50, e255_62, e255_98, Option.getD_some, Option.bind_some, Option.toList_some, Option.toList_none, List.cons_append, List.nil_append, and_self, and_true, true_and, false_and, and_false, ite_self, not_true_eq_false, not_false_eq_true, reduceIte, Nat.reduceEqDiff, ab_I, ab_L, ab_R, ao_I, ao_L, ao_R, gL_sL, gI_sI, gR_sR, gI_sL, gI_sR, gL_sI, gL_sR, gR_sI, gR_sL, c0, T244, b2_0', mb', c2, T245, b2_n', mv']
end CLOD
