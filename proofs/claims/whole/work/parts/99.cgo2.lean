/-! ===== the class's step, against stpJ ===== -/
section CGO2
variable {τ σ ρ : MS} {k j : Nat} {E : EV} {w w2 : B64} {S : ST} {t n : Int}
theorem fI_hi (w : B64) : BitVec.ofInt 64 (fI w) &&& cF = lUsh w 32 := by
  apply BitVec.eq_of_toNat_eq
  rw [low32, show lUsh w 32 = lUsh w ((32 : Nat) : Int) from rfl, lUsh_k w (by decide), BitVec.toNat_ushiftRight, Nat.shiftRight_eq_div_pow, BitVec.toNat_ofInt]
  have l := w.isLt
  have e := BitVec.toInt_eq_toNat_cond w
  unfold fI
  have p : ((2 ^ 64 : Nat) : Int) = 18446744073709551616 := by decide
  have p2 : (2 : Nat) ^ 32 = 4294967296 := by decide
  rw [p, p2]
  by_cases h : 2 * w.toNat < 2 ^ 64
  · rw [if_pos h] at e
    rw [e]
    omega
  · rw [if_neg h] at e
    rw [e]
    omega
theorem pair_v (h : w2 &&& cF = 0#64) : (BitVec.ofInt 64 (fI w) &&& cF) ||| (w2 &&& ~~~ cF) = lUsh w 32 ||| w2 := by rw [fI_hi, and_not h]
theorem T246 {i : Int} (H : SC σ k j E w) (hS : CSt σ k S) (P : PX S E t) (ht : gI σ 40 8 = t) (h4 : gI σ 40 4 = i + 1) (h3 : gI σ 40 3 = 0) (hi : 0 ≤ i ∧ i < 100000) (hw : okPr w w2) (h0 : fL w = 0) : okc (MM 246 [mR (some 40), mL w2] σ) (some (mI (stpJ E S i w w2 t).1)) (fun τ => spj σ τ k j (stpJ E S i w w2 t)) := by
  obtain ⟨⟨_, hd, _, z2⟩, hs⟩ := hw
  have F := PX_F P
  have sc := sc_c H
  have d9 : dR w ≤ 9 := by have := dR_9 hd; omega
  have l := pR_lt F (show dR w ≤ 10 by omega)
  have t41 := T241 H hS F (show fD w ≤ 10 by omega)
  have e2 : i + 1 + 1 = i + 2 := by omega
  have wi : w32 (gI σ 40 4 + 1) = i + 2 := by
    rw [h4, e2]
    exact w32_i (by omega) (by omega)
  obtain ⟨σ1, e1⟩ : ∃ σ1, σ1 = sI σ 40 4 (i + 2) := ⟨_, rfl⟩
  have q1 : sfq σ1 σ k j := by rw [e1]; exact sfq_i (by omega)
  have H1 := SC_q q1 H
  have S1 : CSt σ1 k S := by rw [e1]; exact CSt_i sc hS
  have u8 : gI σ1 40 8 = t := by rw [e1, gI_sI, if_neg (by omega)]; exact ht
  have u4 : gI σ1 40 4 = i + 2 := by rw [e1, gI_sI, if_pos ⟨rfl, rfl⟩]
  have u3 : gI σ1 40 3 = 0 := by rw [e1, gI_sI, if_neg (by omega)]; exact h3
  have s22 : MM 246 [mR (some 40), mL w2] σ = RR (lkB tb246) (B246_22, [some (mR (some 40)), some (mL w2), none, some (mI ((pR S (dR w) : Nat) : Int))], [mI (fS w)], σ1) := by
    simp only [M246, e246_0, e246_4, Option.getD_some, Option.bind_some, Option.toList_some, Option.toList_none, List.cons_append, List.nil_append, and_self, and_true, true_and, false_and, and_false, ite_self, not_true_eq_false, not_false_eq_true, reduceIte, Nat.reduceEqDiff, ab_I, ab_L, ab_R, ao_I, ao_L, ao_R, gL_sL, gI_sI, gR_sR, gI_sL, gI_sR, gL_sI, gL_sR, gR_sI, gR_sL, t41, wi, ← e1, sc_w H1, T2]
  rw [s22]
  unfold stpJ
  rw [if_pos h0]
  rcases hs with s0 | ⟨s1, i0, i7, _⟩
  · rw [if_pos s0, pair_v z2]
    have n1 : ¬ fS w = 1 := by omega
    have t61 := T61 (σ := σ1) (k := 42) (x1 := lUsh w 32 ||| w2) (kc_42 _)
    obtain ⟨σ2, h2⟩ : ∃ σ2, σ2 = wC σ1 42 (cstN (lUsh w 32 ||| w2)) := ⟨_, rfl⟩
    rw [← h2] at t61
    have q2 : nfq σ2 σ1 := by rw [h2]; exact nfq_w (by omega)
    have r42 : rC σ2 42 = cstN (lUsh w 32 ||| w2) := by rw [h2, rC_wC, if_pos rfl]
    have H2 := SC_n q2 H1
    obtain ⟨τ1, t18, q3⟩ := T218 (j := 42) (sc_k H2) (kc_42 _) (by omega) l
    rw [r42] at q3
    have sp := spo_w (j := j) H1 S1 F d9 q2 q3
    obtain ⟨y1, y2, y3, y4⟩ := sp.2 rfl
    refine okc_o (τ := τ1) ?_ ⟨sfq_t sp.1 q1, fun _ => ⟨y4.trans u8, y1, y2.trans u4, y3.trans u3⟩⟩
    simp only [e246_22, e246_83, e246_95, Option.getD_some, Option.bind_some, Option.toList_some, Option.toList_none, List.cons_append, List.nil_append, and_self, and_true, true_and, false_and, and_false, ite_self, not_true_eq_false, not_false_eq_true, reduceIte, Nat.reduceEqDiff, ab_I, ab_L, ab_R, ao_I, ao_L, ao_R, gL_sL, gI_sI, gR_sR, gI_sL, gI_sR, gL_sI, gL_sR, gR_sI, gR_sL, n1, sc_w H1, t61, sc_h H2, sc_ao H2, t18]
  · rw [if_neg (show ¬ fS w = 0 by omega)]
    obtain ⟨m, hm⟩ : ∃ m : Nat, fI w = (m : Int) := ⟨(fI w).toNat, by omega⟩
    have t44 := T44 (m := m) H1.2.2.2.1 (by omega)
    rw [hm]
    by_cases tl : E.1 (m : Int).toNat < 0
    · rw [if_pos tl]
      rw [Int.toNat_natCast] at tl
      rw [b2_no (show ¬ 0 ≤ E.1 m by omega)] at t44
      refine okc_o (τ := σ1) ?_ (spj_f (by show ¬ (15 : Int) = 0; decide) q1)
      simp only [e246_22, e246_37, e246_40, Option.getD_some, Option.bind_some, Option.toList_some, Option.toList_none, List.cons_append, List.nil_append, and_self, and_true, true_and, false_and, and_false, ite_self, not_true_eq_false, not_false_eq_true, reduceIte, Nat.reduceEqDiff, ab_I, ab_L, ab_R, ao_I, ao_L, ao_R, gL_sL, gI_sI, gR_sR, gI_sL, gI_sR, gL_sI, gL_sR, gR_sI, gR_sL, eq_true s1, sc_w H1, T4, hm, t44]
    · rw [if_neg tl]
      rw [Int.toNat_natCast] at tl
      rw [b2_yes (show 0 ≤ E.1 m by omega)] at t44
      obtain ⟨τ1, t17, q3⟩ := T217 (kn := 4) (w := (m : Int)) (t := 0) (sc_k H1) l
      have sp := spo_w (j := j) H1 S1 F d9 (nfq_r σ1) q3
      obtain ⟨y1, y2, y3, y4⟩ := sp.2 rfl
      refine okc_o (τ := τ1) ?_ ⟨sfq_t sp.1 q1, fun _ => ⟨y4.trans u8, y1, y2.trans u4, y3.trans u3⟩⟩
      simp only [e246_22, e246_37, e246_40, e246_59, e246_64, e246_95, Option.getD_some, Option.bind_some, Option.toList_some, Option.toList_none, List.cons_append, List.nil_append, and_self, and_true, true_and, false_and, and_false, ite_self, not_true_eq_false, not_false_eq_true, reduceIte, Nat.reduceEqDiff, ab_I, ab_L, ab_R, ao_I, ao_L, ao_R, gL_sL, gI_sI, gR_sR, gI_sL, gI_sR, gL_sI, gL_sR, gR_sI, gR_sL, eq_true s1, sc_w H1, T4, hm, t44, oneI, sc_h H1, sc_ao H1, t17]
/-- the head of a step -/
abbrev hdS (σ : MS) (k j : Nat) (w : B64) : MS := sL (sI (sR (sR σ 40 1 (some k)) 40 2 (some j)) 40 3 0) 40 6 w
abbrev hdr (σ : MS) (k j : Nat) (w : B64) (n : Int) : MS := sI (sI (hdS σ k j w) 40 7 (fOp w)) 40 4 n
theorem CSt_hdr (hk : stC k) (c : CSt σ k S) {a b : Nat} : CSt (hdr σ a b w n) k S := CSt_q (σ := σ) (τ := hdr σ a b w n)
  (fun s => by show gI (sI (sI (sI σ 40 3 0) 40 7 (fOp w)) 40 4 n) _ _ = _; rw [gI_sI, if_neg (by omega), gI_sI, if_neg (by omega), gI_sI, if_neg (by omega)])
  (fun s => by show gI (sI (sI (sI σ 40 3 0) 40 7 (fOp w)) 40 4 n) _ _ = _; rw [gI_sI, if_neg (by omega), gI_sI, if_neg (by omega), gI_sI, if_neg (by omega)])
  (fun s => by show gI (sI (sI (sI σ 40 3 0) 40 7 (fOp w)) 40 4 n) _ _ = _; rw [gI_sI, if_neg (by omega), gI_sI, if_neg (by omega), gI_sI, if_neg (by omega)])
  (fun s => by show gL (sL σ 40 6 w) _ _ = _; rw [gL_sL, if_neg (by omega)]) c
theorem SC_hdr (hk : isSt σ k) (hj : isSt σ j) (dd : k + 3 < j ∨ j + 3 < k) (sk : stC k) (sj : stC j) (C : CEO σ E) (r41 : rC σ 41 = cstN 0#64) : SC (hdr σ k j w n) k j E w := by
  refine ⟨⟨⟨hk, hj⟩, dd, sk, sj⟩, ⟨?_, ?_⟩, ⟨?_, ?_⟩, ?_, ?_⟩
  · show gR (sR (sR σ 40 1 (some k)) 40 2 (some j)) 40 1 = some k
    rw [gR_sR, if_neg (by omega), gR_sR, if_pos ⟨rfl, rfl⟩]
  · show gR (sR (sR σ 40 1 (some k)) 40 2 (some j)) 40 2 = some j
    rw [gR_sR, if_pos ⟨rfl, rfl⟩]
  · show gL (sL σ 40 6 w) 40 6 = w
    rw [gL_sL, if_pos ⟨rfl, rfl⟩]
  · show gI (sI (sI (sI σ 40 3 0) 40 7 (fOp w)) 40 4 n) 40 7 = fOp w
    rw [gI_sI, if_neg (by omega), gI_sI, if_pos ⟨rfl, rfl⟩]
  · have e : ∀ q s, ¬ q = 40 → gI (hdr σ k j w n) q s = gI σ q s := fun q s h => by
      show gI (sI (sI (sI σ 40 3 0) 40 7 (fOp w)) 40 4 n) _ _ = _
      rw [gI_sI, if_neg (fun z => h z.1), gI_sI, if_neg (fun z => h z.1), gI_sI, if_neg (fun z => h z.1)]
    intro m hm
    rw [e 31 m (by decide), e 32 m (by decide), e 29 m (by decide), e 30 m (by decide)]
    exact C m hm
  · have e : ∀ s, gL (hdr σ k j w n) 41 s = gL σ 41 s := fun s => by
      show gL (sL σ 40 6 w) _ _ = _
      rw [gL_sL, if_neg (fun z => absurd z.1 (by decide))]
    rw [← r41]
    unfold rC
    rw [e, e, e, e, e, e]
theorem L240 {c i : Nat} (hk : isSt σ k) (hj : isSt σ j) (sk : stC k) (kc : (kd σ c).1 = 4) (hi : i < (kd σ c).2) (g5 : gI σ k 5 = (i : Int)) (gw : gL σ c i = w) : MM 240 [mR (some 40), mR (some k), mR (some j), mR (some c)] σ = RR (lkB tb240) (B240_36, [some (mR (some 40)), some (mR (some k)), some (mR (some j)), some (mR (some c))], [mI (fOp w), mR (some 40)], hdS σ k j w) := by
  have a9 : ao σ 9 (some 40) = True := eq_true ⟨rfl, rfl⟩
  have a1 : ak σ 2 (some k) = True := eq_true (fun _ => by show (kd σ k).1 = 28; rw [hk.1])
  have a2 : ak σ 2 (some j) = True := eq_true (fun _ => by show (kd σ j).1 = 28; rw [hj.1])
  have a8 : ao σ 8 (some k) = True := aoS hk
  have g : (Option.isSome (some c) = true ∧ ab σ 4 c (i : Int)) = True := eq_true ⟨rfl, kc, by omega, by omega⟩
  have nk : ¬ k = 40 := by omega
  simp only [M240, e240_0, e240_15, Option.getD_some, Option.bind_some, Option.toList_some, Option.toList_none, List.cons_append, List.nil_append, and_self, and_true, true_and, false_and, and_false, ite_self, not_true_eq_false, not_false_eq_true, reduceIte, Nat.reduceEqDiff, ab_I, ab_L, ab_R, ao_I, ao_L, ao_R, gL_sL, gI_sI, gR_sR, gI_sL, gI_sR, gL_sI, gL_sR, gR_sI, gR_sL, a9, a1, a2, a8, nk, g5, g, Int.toNat_natCast, gw, T0]
theorem T240 {c i : Nat} (hk : isSt σ k) (hj : isSt σ j) (dd : k + 3 < j ∨ j + 3 < k) (sk : stC k) (sj : stC j) (C : CEO σ E) (r41 : rC σ 41 = cstN 0#64) (kc : (kd σ c).1 = 4) (hi : i < (kd σ c).2) (hi2 : i < 50000) (g5 : gI σ k 5 = (i : Int)) (gw : gL σ c i = w) (hS : CSt σ k S) (P : PX S E t) (hE : okE E) (ht : gI σ 40 8 = t) (hl : ak σ 2 (gR σ k 6))
    (hw : okPl w ∨ (i + 1 < (kd σ c).2 ∧ gL σ c (i + 1) = w2 ∧ okPr w w2 ∧ fL w = 0)) (hg : (fOp w = 133 → fS w = 1) → -2147483648 ≤ goal i w ∧ goal i w < 2147483648) :
    okc (MM 240 [mR (some 40), mR (some k), mR (some j), mR (some c)] σ) (some (mI (stpJ E S i w w2 t).1)) (fun τ => spj (hdr σ k j w ((i : Int) + 1)) τ k j (stpJ E S i w w2 t)) := by
  rw [L240 hk hj sk kc hi g5 gw]
  have H := SC_hdr (n := (i : Int) + 1) (w := w) hk hj dd sk sj C r41
  have S0 : CSt (hdr σ k j w ((i : Int) + 1)) k S := CSt_hdr sk hS
  have nk : ¬ k = 40 := by omega
  have v4 : gI (hdr σ k j w ((i : Int) + 1)) 40 4 = (i : Int) + 1 := by rw [gI_sI, if_pos ⟨rfl, rfl⟩]
  have v3 : gI (hdr σ k j w ((i : Int) + 1)) 40 3 = 0 := by
    show gI (sI (sI (sI σ 40 3 0) 40 7 (fOp w)) 40 4 ((i : Int) + 1)) 40 3 = 0
    rw [gI_sI, if_neg (by omega), gI_sI, if_neg (by omega), gI_sI, if_pos ⟨rfl, rfl⟩]
  have v8 : gI (hdr σ k j w ((i : Int) + 1)) 40 8 = t := by
    show gI (sI (sI (sI σ 40 3 0) 40 7 (fOp w)) 40 4 ((i : Int) + 1)) 40 8 = t
    rw [gI_sI, if_neg (by omega), gI_sI, if_neg (by omega), gI_sI, if_neg (by omega)]
    exact ht
  have vl : ak (hdr σ k j w ((i : Int) + 1)) 2 (gR (hdr σ k j w ((i : Int) + 1)) k 6) := by
    have e : gR (hdr σ k j w ((i : Int) + 1)) k 6 = gR σ k 6 := by
      show gR (sR (sR σ 40 1 (some k)) 40 2 (some j)) k 6 = gR σ k 6
      rw [gR_sR, if_neg (fun z => nk z.1), gR_sR, if_neg (fun z => nk z.1)]
    rw [e]
    exact hl
  -- the state behind the head
  have h1 : gR (hdS σ k j w) 40 1 = some k := H.2.1.1
  have a8 : ao (hdS σ k j w) 8 (some k) = True := aoS hk
  have u5 : gI (hdS σ k j w) k 5 = (i : Int) := by
    show gI (sI σ 40 3 0) k 5 = _
    rw [gI_sI, if_neg (fun z => nk z.1)]
    exact g5
  have u6 : gL (hdS σ k j w) 40 6 = w := H.2.2.1.1
  have wi : w32 ((i : Int) + 1) = (i : Int) + 1 := w32_i (by omega) (by omega)
  have kc' : (kd (hdS σ k j w) c).1 = 4 := kc
  have k2' : (kd (hdS σ k j w) c).2 = (kd σ c).2 := rfl
  have uc : ∀ s, gL (hdS σ k j w) c s = gL σ c s := fun s => by
    have nc : ¬ c = 40 := fun z => by
      rw [z] at kc
      exact absurd (show (29 : Nat) = 4 from kc) (by decide)
    show gL (sL σ 40 6 w) c s = gL σ c s
    rw [gL_sL, if_neg (fun z => nc z.1)]
  generalize hh : hdS σ k j w = σ6 at *
  obtain ⟨σ7, h7⟩ : ∃ σ7, σ7 = sI (sI σ6 40 7 (fOp w)) 40 4 ((i : Int) + 1) := ⟨_, rfl⟩
  have eh : hdr σ k j w ((i : Int) + 1) = σ7 := by rw [h7, ← hh]
  rw [eh] at H S0 v4 v3 v8 vl ⊢
  have w7 : iAnd (fOp w) 7 = fL w := m7 w
  have w224 : iAnd (fOp w) 224 = fM w := m224 w
  have r8 := fld_rng w
  have f8 : 0 ≤ fL w ∧ fL w < 8 := by unfold fL; omega
  rcases hw with hw | ⟨i1, gw2, hw, f0⟩
  · by_cases f0 : fL w = 0
    · unfold okPl at hw
      rw [if_pos f0] at hw
      exact hw.elim
    · unfold okPl at hw
      rw [if_neg f0] at hw
      unfold stpJ
      rw [if_neg f0]
      by_cases f47 : fL w = 4 ∨ fL w = 7
      · rw [if_pos f47] at hw ⊢
        obtain ⟨τ, a, b⟩ := T247 H S0 P v8 hw f47
        rw [v4] at b
        rw [wayJ_1]
        refine okc_o (τ := τ) ?_ (spj_1 v3 b)
        rcases f47 with f | f
        · simp only [e240_36, e240_223, Option.getD_some, Option.bind_some, Option.toList_some, Option.toList_none, List.cons_append, List.nil_append, and_self, and_true, true_and, false_and, and_false, ite_self, not_true_eq_false, not_false_eq_true, reduceIte, Nat.reduceEqDiff, ab_I, ab_L, ab_R, ao_I, ao_L, ao_R, gL_sL, gI_sI, gR_sR, gI_sL, gI_sR, gL_sI, gL_sR, gR_sI, gR_sL, h1, a8, nk, u5, wi, ← h7, sc_p H, sc_w H, w7, f, Int.reduceEq, a]
        · simp only [e240_36, e240_223, Option.getD_some, Option.bind_some, Option.toList_some, Option.toList_none, List.cons_append, List.nil_append, and_self, and_true, true_and, false_and, and_false, ite_self, not_true_eq_false, not_false_eq_true, reduceIte, Nat.reduceEqDiff, ab_I, ab_L, ab_R, ao_I, ao_L, ao_R, gL_sL, gI_sI, gR_sR, gI_sL, gI_sR, gL_sI, gL_sR, gR_sI, gR_sL, h1, a8, nk, u5, wi, ← h7, sc_p H, sc_w H, w7, f, Int.reduceEq, a]
      · rw [if_neg f47] at hw ⊢
        by_cases f56 : fL w = 5 ∨ fL w = 6
        · rw [if_pos f56] at hw ⊢
          unfold okJmp at hw
          have o56 : fOp w % 8 = 5 ∨ fOp w % 8 = 6 := f56
          by_cases g56 : fOp w = 5 ∨ fOp w = 6
          · rw [if_pos g56]
            obtain ⟨τ, a, b⟩ := T262g (i := (i : Int)) H S0 v8 v4 v3 g56 (hg (fun z => by omega))
            have n149 : ¬ fOp w = 149 := by omega
            have n133 : ¬ fOp w = 133 := by omega
            refine okc_o (τ := τ) ?_ b
            rcases f56 with f | f
            · simp only [e240_36, e240_218, Option.getD_some, Option.bind_some, Option.toList_some, Option.toList_none, List.cons_append, List.nil_append, and_self, and_true, true_and, false_and, and_false, ite_self, not_true_eq_false, not_false_eq_true, reduceIte, Nat.reduceEqDiff, ab_I, ab_L, ab_R, ao_I, ao_L, ao_R, gL_sL, gI_sI, gR_sR, gI_sL, gI_sR, gL_sI, gL_sR, gR_sI, gR_sL, h1, a8, nk, u5, wi, ← h7, sc_p H, sc_w H, w7, f, Int.reduceEq, n149, n133, a]
            · simp only [e240_36, e240_218, Option.getD_some, Option.bind_some, Option.toList_some, Option.toList_none, List.cons_append, List.nil_append, and_self, and_true, true_and, false_and, and_false, ite_self, not_true_eq_false, not_false_eq_true, reduceIte, Nat.reduceEqDiff, ab_I, ab_L, ab_R, ao_I, ao_L, ao_R, gL_sL, gI_sI, gR_sR, gI_sL, gI_sR, gL_sI, gL_sR, gR_sI, gR_sL, h1, a8, nk, u5, wi, ← h7, sc_p H, sc_w H, w7, f, Int.reduceEq, n149, n133, a]
          · rw [if_neg g56]
            rw [if_neg (fun z => g56 (Or.inl z)), if_neg (fun z => g56 (Or.inr z))] at hw
            by_cases g149 : fOp w = 149
            · rw [if_pos g149]
              obtain ⟨τ, a, b⟩ := T261 H S0 P v8 v3
              have f : fL w = 5 := by unfold fL; omega
              refine okc_o (τ := τ) ?_ b
              simp only [e240_36, e240_173, Option.getD_some, Option.bind_some, Option.toList_some, Option.toList_none, List.cons_append, List.nil_append, and_self, and_true, true_and, false_and, and_false, ite_self, not_true_eq_false, not_false_eq_true, reduceIte, Nat.reduceEqDiff, ab_I, ab_L, ab_R, ao_I, ao_L, ao_R, gL_sL, gI_sI, gR_sR, gI_sL, gI_sR, gL_sI, gL_sR, gR_sI, gR_sL, h1, a8, nk, u5, wi, ← h7, sc_p H, sc_w H, w7, f, Int.reduceEq, eq_true g149, a]
            · rw [if_neg g149]
              by_cases g133 : fOp w = 133
              · rw [if_pos g133]
                rw [if_pos g133] at hw
                have f : fL w = 5 := by unfold fL; omega
                have eg : goal i w = (i : Int) + 1 + fI w := by
                  unfold goal
                  rw [if_pos (Or.inr g133)]
                have s191 : RR (lkB tb240) (B240_36, [some (mR (some 40)), some (mR (some k)), some (mR (some j)), some (mR (some c))], [mI (fOp w), mR (some 40)], σ6) = RR (lkB tb240) (B240_191, [some (mR (some 40)), some (mR (some k)), some (mR (some j)), some (mR (some c))], [mI (fS w)], σ7) := by
                  simp only [e240_36, Option.getD_some, Option.bind_some, Option.toList_some, Option.toList_none, List.cons_append, List.nil_append, and_self, and_true, true_and, false_and, and_false, ite_self, not_true_eq_false, not_false_eq_true, reduceIte, Nat.reduceEqDiff, ab_I, ab_L, ab_R, ao_I, ao_L, ao_R, gL_sL, gI_sI, gR_sR, gI_sL, gI_sR, gL_sI, gL_sR, gR_sI, gR_sL, h1, a8, nk, u5, wi, ← h7, sc_p H, sc_w H, w7, f, Int.reduceEq, eq_false g149, eq_true g133, T2]
                rw [s191]
                by_cases s1 : fS w = 1
                · rw [if_pos s1]
                  have hg := hg (fun _ => s1)
                  rw [eg] at hg ⊢
                  obtain ⟨τ, a, b⟩ := T260 H S0 P v8 v4 v3 hg
                  refine okc_o (τ := τ) ?_ b
                  simp only [e240_191, e240_199, e240_213, Option.getD_some, Option.bind_some, Option.toList_some, Option.toList_none, List.cons_append, List.nil_append, and_self, and_true, true_and, false_and, and_false, ite_self, not_true_eq_false, not_false_eq_true, reduceIte, Nat.reduceEqDiff, ab_I, ab_L, ab_R, ao_I, ao_L, ao_R, gL_sL, gI_sI, gR_sR, gI_sL, gI_sR, gL_sI, gL_sR, gR_sI, gR_sL, eq_true s1, a]
                · rw [if_neg s1]
                  obtain ⟨τ, a, b⟩ := T283 (h := fI w) H S0 P hE v8 v4 v3
                  refine okc_o (τ := τ) ?_ b
                  simp only [e240_191, e240_210, e240_213, Option.getD_some, Option.bind_some, Option.toList_some, Option.toList_none, List.cons_append, List.nil_append, and_self, and_true, true_and, false_and, and_false, ite_self, not_true_eq_false, not_false_eq_true, reduceIte, Nat.reduceEqDiff, ab_I, ab_L, ab_R, ao_I, ao_L, ao_R, gL_sL, gI_sI, gR_sR, gI_sL, gI_sR, gL_sI, gL_sR, gR_sI, gR_sL, eq_false s1, sc_w H, T4, a]
              · rw [if_neg g133]
                rw [if_neg g133, if_neg g149] at hw
                have cm : isCmp (fC w) := by
                  have q := hw.1.1
                  unfold fC
                  have : fOp w / 16 = 1 ∨ fOp w / 16 = 2 ∨ fOp w / 16 = 3 ∨ fOp w / 16 = 4 ∨ fOp w / 16 = 5 ∨ fOp w / 16 = 6 ∨ fOp w / 16 = 7 ∨ fOp w / 16 = 10 ∨ fOp w / 16 = 11 ∨ fOp w / 16 = 12 ∨ fOp w / 16 = 13 := by omega
                  rcases this with z | z | z | z | z | z | z | z | z | z | z <;> rw [z] <;> decide
                have c0 : ¬ fC w = 0 := fun z => by rw [z] at cm; exact absurd cm (by decide)
                have hs : rgt w → fS w ≤ 10 := fun r => by
                  have := hw.2
                  rw [if_pos r] at this
                  exact this.1
                obtain ⟨τ, a, b⟩ := T262c (i := (i : Int)) H S0 P v8 v4 v3 vl c0 cm f56 hw.1.2 hs (hg (fun z => absurd z g133))
                refine okc_o (τ := τ) ?_ b
                rcases f56 with f | f
                · simp only [e240_36, e240_218, Option.getD_some, Option.bind_some, Option.toList_some, Option.toList_none, List.cons_append, List.nil_append, and_self, and_true, true_and, false_and, and_false, ite_self, not_true_eq_false, not_false_eq_true, reduceIte, Nat.reduceEqDiff, ab_I, ab_L, ab_R, ao_I, ao_L, ao_R, gL_sL, gI_sI, gR_sR, gI_sL, gI_sR, gL_sI, gL_sR, gR_sI, gR_sL, h1, a8, nk, u5, wi, ← h7, sc_p H, sc_w H, w7, f, Int.reduceEq, eq_false g149, eq_false g133, a]
                · simp only [e240_36, e240_218, Option.getD_some, Option.bind_some, Option.toList_some, Option.toList_none, List.cons_append, List.nil_append, and_self, and_true, true_and, false_and, and_false, ite_self, not_true_eq_false, not_false_eq_true, reduceIte, Nat.reduceEqDiff, ab_I, ab_L, ab_R, ao_I, ao_L, ao_R, gL_sL, gI_sI, gR_sR, gI_sL, gI_sR, gL_sI, gL_sR, gR_sI, gR_sL, h1, a8, nk, u5, wi, ← h7, sc_p H, sc_w H, w7, f, Int.reduceEq, eq_false g149, eq_false g133, a]
        · rw [if_neg f56] at hw ⊢
          by_cases f1 : fL w = 1
          · rw [if_pos f1]
            obtain ⟨τ, a, b⟩ := T255 H S0 P v8 hw f1
            rw [v4] at b
            rw [wayJ_1]
            refine okc_o (τ := τ) ?_ (spj_1 v3 b)
            simp only [e240_36, e240_128, Option.getD_some, Option.bind_some, Option.toList_some, Option.toList_none, List.cons_append, List.nil_append, and_self, and_true, true_and, false_and, and_false, ite_self, not_true_eq_false, not_false_eq_true, reduceIte, Nat.reduceEqDiff, ab_I, ab_L, ab_R, ao_I, ao_L, ao_R, gL_sL, gI_sI, gR_sR, gI_sL, gI_sR, gL_sI, gL_sR, gR_sI, gR_sL, h1, a8, nk, u5, wi, ← h7, sc_p H, sc_w H, w7, f1, Int.reduceEq, a]
          · rw [if_neg f1]
            by_cases f3 : fL w = 3 ∧ fM w = 192
            · rw [if_pos f3]
              obtain ⟨τ, a, b⟩ := T259 H S0 P v8 hw f3
              rw [v4] at b
              rw [wayJ_1]
              refine okc_o (τ := τ) ?_ (spj_1 v3 b)
              simp only [e240_36, e240_158, Option.getD_some, Option.bind_some, Option.toList_some, Option.toList_none, List.cons_append, List.nil_append, and_self, and_true, true_and, false_and, and_false, ite_self, not_true_eq_false, not_false_eq_true, reduceIte, Nat.reduceEqDiff, ab_I, ab_L, ab_R, ao_I, ao_L, ao_R, gL_sL, gI_sI, gR_sR, gI_sL, gI_sR, gL_sI, gL_sR, gR_sI, gR_sL, h1, a8, nk, u5, wi, ← h7, sc_p H, sc_w H, w7, w224, f3.1, f3.2, Int.reduceEq, a]
            · rw [if_neg f3]
              have hm : fL w = 2 ∨ fL w = 3 ∧ fM w = 96 := by
                by_cases f2 : fL w = 2
                · exact Or.inl f2
                · right
                  have f3' : fL w = 3 := by omega
                  refine ⟨f3', ?_⟩
                  apply Classical.byContradiction
                  intro z
                  unfold okMem at hw
                  rw [if_neg f1, if_neg f2, if_neg z] at hw
                  have o := hw.1.1
                  have : fM w = 192 := by unfold fM; omega
                  exact f3 ⟨f3', this⟩
              obtain ⟨τ, a, b⟩ := T257 H S0 P v8 hw hm
              rw [v4] at b
              rw [wayJ_1]
              refine okc_o (τ := τ) ?_ (spj_1 v3 b)
              rcases hm with f | f
              · simp only [e240_36, e240_133, Option.getD_some, Option.bind_some, Option.toList_some, Option.toList_none, List.cons_append, List.nil_append, and_self, and_true, true_and, false_and, and_false, ite_self, not_true_eq_false, not_false_eq_true, reduceIte, Nat.reduceEqDiff, ab_I, ab_L, ab_R, ao_I, ao_L, ao_R, gL_sL, gI_sI, gR_sR, gI_sL, gI_sR, gL_sI, gL_sR, gR_sI, gR_sL, h1, a8, nk, u5, wi, ← h7, sc_p H, sc_w H, w7, f, Int.reduceEq, a]
              · simp only [e240_36, e240_151, e240_158, Option.getD_some, Option.bind_some, Option.toList_some, Option.toList_none, List.cons_append, List.nil_append, and_self, and_true, true_and, false_and, and_false, ite_self, not_true_eq_false, not_false_eq_true, reduceIte, Nat.reduceEqDiff, ab_I, ab_L, ab_R, ao_I, ao_L, ao_R, gL_sL, gI_sI, gR_sR, gI_sL, gI_sR, gL_sI, gL_sR, gR_sI, gR_sL, h1, a8, nk, u5, wi, ← h7, sc_p H, sc_w H, w7, w224, f.1, f.2, Int.reduceEq, a]
  · obtain ⟨τ, a, b⟩ := T246 (i := (i : Int)) H S0 P v8 v4 v3 (by omega) hw f0
    refine okc_o (τ := τ) ?_ b
    have nl : ¬ ((kd σ6 c).2 : Int) ≤ (i : Int) + 1 := by rw [k2']; omega
    have i1' : (i : Int) + 1 = ((i + 1 : Nat) : Int) := by omega
    have gd : (Option.isSome (some c) = true ∧ ab σ6 4 c ((i : Int) + 1)) = True := eq_true ⟨rfl, kc', by omega, by rw [k2']; omega⟩
    have kk : (Option.isSome (some c) = true ∧ (kd σ6 c).1 = 4) = True := eq_true ⟨rfl, kc'⟩
    have kd7 : kd σ7 c = kd σ6 c := by rw [h7]; rfl
    have g2 : gL σ7 c (Int.toNat ((i : Int) + 1)) = w2 := by
      rw [i1', Int.toNat_natCast]
      show gL σ7 c (i + 1) = w2
      rw [h7]
      show gL σ6 c (i + 1) = w2
      rw [uc]
      exact gw2
    have v4' : gI σ7 40 4 = (i : Int) + 1 := v4
    have g7 : gI σ7 40 7 = fOp w := sc_p H
    rw [e240_36]
    have hh1 : gR (sI σ6 40 7 (fOp w)) 40 1 = some k := h1
    have aa : ao σ6 8 (some k) := of_eq_true a8
    have u5' : gI (sI σ6 40 7 (fOp w)) k 5 = (i : Int) := by rw [gI_sI, if_neg (fun z => nk z.1)]; exact u5
    have gd7 : (Option.isSome (some c) = true ∧ ab σ7 4 c ((i : Int) + 1)) = True := eq_true ⟨rfl, by rw [kd7]; exact kc', by omega, by rw [kd7, k2']; omega⟩
    rw [hh1, if_pos aa, Option.getD_some, u5', wi, ← h7, g7, w7, if_pos f0, v4']
    have gd6 : ab σ6 4 c ((i : Int) + 1) := ⟨kc', by omega, by rw [k2']; omega⟩
    simp only [e240_119, Option.getD_some, Option.bind_some, Option.toList_some, Option.toList_none, List.cons_append, List.nil_append, and_self, and_true, true_and, false_and, and_false, ite_self, not_true_eq_false, not_false_eq_true, reduceIte, Nat.reduceEqDiff, ab_I, ab_L, ab_R, ao_I, ao_L, ao_R, gL_sL, gI_sI, gR_sR, gI_sL, gI_sR, gL_sI, gL_sR, gR_sI, gR_sL, Option.isSome_some, kc', nl, gd, gd7, g2, a, kk, kd7]
    exact if_pos gd6
end CGO2
