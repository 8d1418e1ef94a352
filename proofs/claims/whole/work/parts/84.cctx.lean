/-! ===== the class's Steps: what it stands on ===== -/
abbrev stC (k : Nat) : Prop := k = 62 ∨ k = 66 ∨ 153 ≤ k
/-- the class's maps -/
def CEO (σ : MS) (E : EV) : Prop := ∀ m, m < 8 → gI σ 31 m = E.2.1 m ∧ gI σ 32 m = E.2.2 m ∧ (gI σ 29 m = 0 → E.1 m < 0) ∧ (¬ gI σ 29 m = 0 → E.1 m = gI σ 30 m ∧ 0 ≤ E.1 m)
/-- here at cell k, other at cell j, the word w -/
def SC (σ : MS) (k j : Nat) (E : EV) (w : B64) : Prop := ((isSt σ k ∧ isSt σ j) ∧ (k + 3 < j ∨ j + 3 < k) ∧ stC k ∧ stC j) ∧ (gR σ 40 1 = some k ∧ gR σ 40 2 = some j) ∧ (gL σ 40 6 = w ∧ gI σ 40 7 = fOp w) ∧ CEO σ E ∧ rC σ 41 = cstN 0#64
/-- what an instruction may change -/
def sfq (τ σ : MS) (k j : Nat) : Prop :=
  (∀ k' s, ¬ (k' = 40 ∧ (s = 3 ∨ s = 4 ∨ s = 5 ∨ s = 8)) → ¬ ((k' = k ∧ (s = 3 ∨ s = 4)) ∨ k' = k + 1 + 1 ∨ k' = k + 1 + 2) → ¬ (j ≤ k' ∧ k' ≤ j + 3) → gI τ k' s = gI σ k' s)
  ∧ (∀ k' s, ¬ (42 ≤ k' ∧ k' ≤ 50) → ¬ k' = k + 1 + 0 → ¬ k' = j + 1 + 0 → gL τ k' s = gL σ k' s)
  ∧ (∀ k' s, ¬ (k' = j ∧ s = 6) → gR τ k' s = gR σ k' s) ∧ τ.2.2.2 = σ.2.2.2
/-- what is so of a STATE -/
def PX (S : ST) (E : EV) (t : Int) : Prop := okS E t S ∧ canS S ∧ xS S ∧ t < 1000000
abbrev pR (S : ST) (r : Nat) : Nat := 297 * (sF S - 1) + 11 * r
section CTX
variable {a b c τ σ : MS} {k j : Nat} {E : EV} {w : B64} {S : ST} {t : Int} {v : VL}
theorem kd_r3 (h : τ.2.2.2 = σ.2.2.2) (k : Nat) : kd τ k = kd σ k := by
  unfold kd
  rw [h]
theorem st_r3 (h : τ.2.2.2 = σ.2.2.2) (q : isSt σ k) : isSt τ k := by
  unfold isSt at *
  rw [kd_r3 h, kd_r3 h, kd_r3 h, kd_r3 h]
  exact q
theorem sfq_r (σ : MS) (k j : Nat) : sfq σ σ k j := ⟨fun _ _ _ _ _ => rfl, fun _ _ _ _ _ => rfl, fun _ _ _ => rfl, rfl⟩
theorem sfq_t (h1 : sfq a b k j) (h2 : sfq b c k j) : sfq a c k j := ⟨fun k' s p q r => (h1.1 k' s p q r).trans (h2.1 k' s p q r), fun k' s p q r => (h1.2.1 k' s p q r).trans (h2.2.1 k' s p q r), fun k' s p => (h1.2.2.1 k' s p).trans (h2.2.2.1 k' s p), h1.2.2.2.trans h2.2.2.2⟩
theorem gR_r {k' s : Nat} (h : τ.2.2 = σ.2.2) : gR τ k' s = gR σ k' s := by
  unfold gR
  rw [h]
theorem sfq_s (h : csq τ σ k) : sfq τ σ k j := ⟨fun k' s _ q _ => h.1 k' s (fun z => q (Or.inl z)) (fun z => q (Or.inr (Or.inl z))) (fun z => q (Or.inr (Or.inr z))), fun k' s _ q _ => h.2.1 k' s q, fun k' s _ => gR_r h.2.2, by rw [h.2.2]⟩
theorem sfq_c (h : crq τ σ k) : sfq τ σ k j := sfq_s (csq_c h)
theorem sfq_v {pl : Nat} (h : cxV τ σ k pl v) : sfq τ σ k j := sfq_c (crq_c h)
theorem sfq_n (h : nfq τ σ) : sfq τ σ k j := ⟨fun k' s _ _ _ => h.1 k' s, fun k' s p _ _ => h.2.1 k' s p, fun k' s _ => gR_r h.2.2, by rw [h.2.2]⟩
theorem sfq_i {s : Nat} {x : Int} (h : s = 3 ∨ s = 4 ∨ s = 5 ∨ s = 8) : sfq (sI σ 40 s x) σ k j := ⟨fun k' s' p _ _ => by
  rw [gI_sI, if_neg]
  intro z
  exact p ⟨z.1, by rw [z.2]; exact h⟩, fun _ _ _ _ _ => rfl, fun _ _ _ => rfl, rfl⟩
theorem SC_q (h : sfq τ σ k j) (H : SC σ k j E w) : SC τ k j E w := by
  obtain ⟨⟨⟨i1, i2⟩, d, s1, s2⟩, ⟨r1, r2⟩, ⟨g1, g2⟩, m, z⟩ := H
  refine ⟨⟨⟨st_r3 h.2.2.2 i1, st_r3 h.2.2.2 i2⟩, d, s1, s2⟩, ⟨(h.2.2.1 _ _ (by omega)).trans r1, (h.2.2.1 _ _ (by omega)).trans r2⟩, ⟨(h.2.1 _ _ (by omega) (by omega) (by omega)).trans g1, (h.1 _ _ (by omega) (by omega) (by omega)).trans g2⟩, fun i hi => ?_, ?_⟩
  · rw [h.1 31 i (by omega) (by omega) (by omega), h.1 32 i (by omega) (by omega) (by omega), h.1 29 i (by omega) (by omega) (by omega), h.1 30 i (by omega) (by omega) (by omega)]
    exact m i hi
  · rw [← z]
    have g : ∀ s, gL τ 41 s = gL σ 41 s := fun s => h.2.1 _ _ (by omega) (by omega) (by omega)
    unfold rC
    rw [g, g, g, g, g, g]
theorem SC_n (h : nfq τ σ) (H : SC σ k j E w) : SC τ k j E w := SC_q (sfq_n h) H
theorem CSt_q (hi : ∀ s, gI τ k s = gI σ k s) (h1 : ∀ s, gI τ (k + 1 + 1) s = gI σ (k + 1 + 1) s) (h2 : ∀ s, gI τ (k + 1 + 2) s = gI σ (k + 1 + 2) s) (hl : ∀ s, gL τ (k + 1 + 0) s = gL σ (k + 1 + 0) s) (h : CSt σ k S) : CSt τ k S := by
  obtain ⟨⟨f3, f4⟩, v1, v2, v3, v4, v5⟩ := h
  refine ⟨⟨(hi _).trans f3, (hi _).trans f4⟩, fun f r hf hr i q => (hl _).trans (v1 f r hf hr i q), fun f hf i q => (hl _).trans (v2 f hf i q), fun f q hf hq i p => (hl _).trans (v3 f q hf hq i p), fun f p q => (h1 _).trans (v4 f p q), fun i hi => (h2 _).trans (v5 i hi)⟩
theorem CSt_n (hk : stC k) (h : nfq τ σ) (c : CSt σ k S) : CSt τ k S := CSt_q (fun s => h.1 _ _) (fun s => h.1 _ _) (fun s => h.1 _ _) (fun s => h.2.1 _ _ (by omega)) c
theorem CSt_i {s : Nat} {x : Int} (hk : stC k) (c : CSt σ k S) : CSt (sI σ 40 s x) k S := CSt_q (σ := σ) (τ := sI σ 40 s x) (fun s => by rw [gI_sI, if_neg (by omega)]) (fun s => by rw [gI_sI, if_neg (by omega)]) (fun s => by rw [gI_sI, if_neg (by omega)]) (fun s => rfl) c
/-! the first askings -/
theorem sc_h (H : SC σ k j E w) : gR σ 40 1 = some k := H.2.1.1
theorem sc_o (H : SC σ k j E w) : gR σ 40 2 = some j := H.2.1.2
theorem sc_w (H : SC σ k j E w) : gL σ 40 6 = w := H.2.2.1.1
theorem sc_p (H : SC σ k j E w) : gI σ 40 7 = fOp w := H.2.2.1.2
theorem sc_k (H : SC σ k j E w) : isSt σ k := H.1.1.1
theorem sc_j (H : SC σ k j E w) : isSt σ j := H.1.1.2
theorem sc_ao (H : SC σ k j E w) : ao σ 8 (some k) = True := aoS (sc_k H)
theorem sc_c (H : SC σ k j E w) : stC k := H.1.2.2.1
theorem aoR (i : Nat) (h : kd σ i = (22, 0)) : ao σ 2 (some i) = True := aoN h
theorem pR_lt {r : Nat} (hF : 1 ≤ sF S ∧ sF S ≤ 4) (hr : r ≤ 10) : pR S r + 11 ≤ 1188 := by
  show 297 * (sF S - 1) + 11 * r + 11 ≤ 1188
  omega
theorem T241 (H : SC σ k j E w) (hS : CSt σ k S) (hF : 1 ≤ sF S ∧ sF S ≤ 4) (hd : fD w ≤ 10) : MM 241 [mR (some 40)] σ = some (some (mI ((pR S (dR w) : Nat) : Int)), σ) := by
  have f := (fld_rng w).2.1
  have e : (dR w : Int) = fD w := by show ((fD w).toNat : Int) = _; omega
  have t := T212 (r := dR w) (sc_k H) hS.1.1 hF (dR_10 hd)
  rw [e] at t
  simp only [M241, e241_0, e241_11, e241_14, Option.getD_some, Option.bind_some, Option.toList_some, Option.toList_none, List.cons_append, List.nil_append, and_self, and_true, true_and, false_and, and_false, ite_self, not_true_eq_false, not_false_eq_true, reduceIte, Nat.reduceEqDiff, ab_I, ab_L, ab_R, ao_I, ao_L, ao_R, gL_sL, gI_sI, gR_sR, gI_sL, gI_sR, gL_sI, gL_sR, gR_sI, gR_sL, sc_w H, T1, sc_h H, sc_ao H, t]
theorem T242 (H : SC σ k j E w) (hS : CSt σ k S) (hF : 1 ≤ sF S ∧ sF S ≤ 4) (hs : fS w ≤ 10) : MM 242 [mR (some 40)] σ = some (some (mI ((pR S (sRr w) : Nat) : Int)), σ) := by
  have f := (fld_rng w).2.2.1
  have e : (sRr w : Int) = fS w := by show ((fS w).toNat : Int) = _; omega
  have t := T212 (r := sRr w) (sc_k H) hS.1.1 hF (sR_10 hs)
  rw [e] at t
  simp only [M242, e242_0, e242_11, e242_14, Option.getD_some, Option.bind_some, Option.toList_some, Option.toList_none, List.cons_append, List.nil_append, and_self, and_true, true_and, false_and, and_false, ite_self, not_true_eq_false, not_false_eq_true, reduceIte, Nat.reduceEqDiff, ab_I, ab_L, ab_R, ao_I, ao_L, ao_R, gL_sL, gI_sI, gR_sR, gI_sL, gI_sR, gL_sI, gL_sR, gR_sI, gR_sL, sc_w H, T2, sc_h H, sc_ao H, t]
theorem T243 (H : SC σ k j E w) : MM 243 [mR (some 40)] σ = some (some (mI (b2 (rgt w))), σ) := by
  by_cases r : rgt w
  · have e : ¬ iAnd (fOp w) 8 = 0 := by rw [m8]; show ¬ fOp w / 8 % 2 * 8 = 0; omega
    simp only [M243, e243_0, Option.getD_some, Option.bind_some, Option.toList_some, Option.toList_none, List.cons_append, List.nil_append, and_self, and_true, true_and, false_and, and_false, ite_self, not_true_eq_false, not_false_eq_true, reduceIte, Nat.reduceEqDiff, ab_I, ab_L, ab_R, ao_I, ao_L, ao_R, gL_sL, gI_sI, gR_sR, gI_sL, gI_sR, gL_sI, gL_sR, gR_sI, gR_sL, sc_p H, e, b2_yes r]
  · have e : iAnd (fOp w) 8 = 0 := by rw [m8]; omega
    simp only [M243, e243_0, Option.getD_some, Option.bind_some, Option.toList_some, Option.toList_none, List.cons_append, List.nil_append, and_self, and_true, true_and, false_and, and_false, ite_self, not_true_eq_false, not_false_eq_true, reduceIte, Nat.reduceEqDiff, ab_I, ab_L, ab_R, ao_I, ao_L, ao_R, gL_sL, gI_sI, gR_sR, gI_sL, gI_sR, gL_sI, gL_sR, gR_sI, gR_sL, sc_p H, e, b2_no r]
theorem T244 {x : Int} : MM 244 [mI x] σ = some (some (mI (b2 (x = 6 ∨ x = 10))), σ) := by
  by_cases c6 : x = 6
  · simp only [M244, e244_0, e244_12, Option.getD_some, Option.bind_some, Option.toList_some, Option.toList_none, List.cons_append, List.nil_append, and_self, and_true, true_and, false_and, and_false, ite_self, not_true_eq_false, not_false_eq_true, reduceIte, Nat.reduceEqDiff, ab_I, ab_L, ab_R, ao_I, ao_L, ao_R, gL_sL, gI_sI, gR_sR, gI_sL, gI_sR, gL_sI, gL_sR, gR_sI, gR_sL, c6, true_or, Int.reduceEq, or_false, b2_yes trivial]
  · by_cases c10 : x = 10
    · simp only [M244, e244_0, e244_12, Option.getD_some, Option.bind_some, Option.toList_some, Option.toList_none, List.cons_append, List.nil_append, and_self, and_true, true_and, false_and, and_false, ite_self, not_true_eq_false, not_false_eq_true, reduceIte, Nat.reduceEqDiff, ab_I, ab_L, ab_R, ao_I, ao_L, ao_R, gL_sL, gI_sI, gR_sR, gI_sL, gI_sR, gL_sI, gL_sR, gR_sI, gR_sL, c10, Int.reduceEq, false_or, b2_yes trivial]
    · simp only [M244, e244_0, Option.getD_some, Option.bind_some, Option.toList_some, Option.toList_none, List.cons_append, List.nil_append, and_self, and_true, true_and, false_and, and_false, ite_self, not_true_eq_false, not_false_eq_true, reduceIte, Nat.reduceEqDiff, ab_I, ab_L, ab_R, ao_I, ao_L, ao_R, gL_sL, gI_sI, gR_sR, gI_sL, gI_sR, gL_sI, gL_sR, gR_sI, gR_sL, c6, c10, or_self, b2_no not_false]
theorem T245 {x : Int} : MM 245 [mI x] σ = some (some (mI (b2 (x = 3 ∨ x = 5 ∨ x = 7 ∨ x = 9))), σ) := by
  by_cases c3 : x = 3
  · simp only [M245, e245_0, e245_22, Option.getD_some, Option.bind_some, Option.toList_some, Option.toList_none, List.cons_append, List.nil_append, and_self, and_true, true_and, false_and, and_false, ite_self, not_true_eq_false, not_false_eq_true, reduceIte, Nat.reduceEqDiff, ab_I, ab_L, ab_R, ao_I, ao_L, ao_R, gL_sL, gI_sI, gR_sR, gI_sL, gI_sR, gL_sI, gL_sR, gR_sI, gR_sL, c3, true_or, Int.reduceEq, b2_yes trivial]
  · by_cases c5 : x = 5
    · simp only [M245, e245_0, e245_22, Option.getD_some, Option.bind_some, Option.toList_some, Option.toList_none, List.cons_append, List.nil_append, and_self, and_true, true_and, false_and, and_false, ite_self, not_true_eq_false, not_false_eq_true, reduceIte, Nat.reduceEqDiff, ab_I, ab_L, ab_R, ao_I, ao_L, ao_R, gL_sL, gI_sI, gR_sR, gI_sL, gI_sR, gL_sI, gL_sR, gR_sI, gR_sL, c5, Int.reduceEq, false_or, true_or, b2_yes trivial]
    · by_cases c7 : x = 7
      · simp only [M245, e245_0, e245_22, Option.getD_some, Option.bind_some, Option.toList_some, Option.toList_none, List.cons_append, List.nil_append, and_self, and_true, true_and, false_and, and_false, ite_self, not_true_eq_false, not_false_eq_true, reduceIte, Nat.reduceEqDiff, ab_I, ab_L, ab_R, ao_I, ao_L, ao_R, gL_sL, gI_sI, gR_sR, gI_sL, gI_sR, gL_sI, gL_sR, gR_sI, gR_sL, c7, Int.reduceEq, false_or, true_or, b2_yes trivial]
      · by_cases c9 : x = 9
        · simp only [M245, e245_0, e245_22, Option.getD_some, Option.bind_some, Option.toList_some, Option.toList_none, List.cons_append, List.nil_append, and_self, and_true, true_and, false_and, and_false, ite_self, not_true_eq_false, not_false_eq_true, reduceIte, Nat.reduceEqDiff, ab_I, ab_L, ab_R, ao_I, ao_L, ao_R, gL_sL, gI_sI, gR_sR, gI_sL, gI_sR, gL_sI, gL_sR, gR_sI, gR_sL, c9, Int.reduceEq, false_or, b2_yes trivial]
        · simp only [M245, e245_0, Option.getD_some, Option.bind_some, Option.toList_some, Option.toList_none, List.cons_append, List.nil_append, and_self, and_true, true_and, false_and, and_false, ite_self, not_true_eq_false, not_false_eq_true, reduceIte, Nat.reduceEqDiff, ab_I, ab_L, ab_R, ao_I, ao_L, ao_R, gL_sL, gI_sI, gR_sR, gI_sL, gI_sR, gL_sI, gL_sR, gR_sI, gR_sL, c3, c5, c7, c9, or_self, b2_no not_false]
theorem PX_F (P : PX S E t) : 1 ≤ sF S ∧ sF S ≤ 4 := P.1.1
theorem PX_k {r : Nat} (P : PX S E t) (hr : r ≤ 10) : okK (rgV S r) := (rV_ok P.1 hr).1
theorem okW_r {r : Nat} (P : PX S E t) (hr : r ≤ 10) : okW (rgV S r) := okW_of (rV_ok P.1 hr) (can_r P.2.1 P.1.1.1 hr) (x_r P.2.2.1 P.1.1.1 hr).1 (by have := P.1.1; omega) P.2.2.2
/-- the kind of a register -/
theorem T214r {r : Nat} (H : SC σ k j E w) (hS : CSt σ k S) (P : PX S E t) (hr : r ≤ 10) : MM 214 [mR (some k), mI ((pR S r : Nat) : Int)] σ = some (some (mI (vk (rgV S r))), σ) := T214 (sc_k H) (by have := pR_lt (PX_F P) hr; omega) (cAt_rg hS P.1.1.1 hr) (PX_k P hr)
theorem T212r {r : Nat} (H : SC σ k j E w) (hS : CSt σ k S) (P : PX S E t) (hr : r ≤ 10) : MM 212 [mR (some k), mI (r : Int)] σ = some (some (mI ((pR S r : Nat) : Int)), σ) := T212 (sc_k H) hS.1.1 (PX_F P) hr
/-- the sides of an operation -/
theorem T248 (H : SC σ k j E w) (hS : CSt σ k S) (P : PX S E t) (hd : fD w ≤ 10) (hs : rgt w → fS w ≤ 10) : ∃ X Y : N6, MM 248 [mR (some 40)] σ = some (none, wC (wC σ 42 X) 43 Y) ∧ (¬ vk (rgV S (dR w)) = 0 → X = vn (rgV S (dR w))) ∧ ((rgt w → ¬ vk (rgV S (sRr w)) = 0) → Y = vn (rgtV S w)) := by
  have F := PX_F P
  have k1 := sc_k H
  have sc := sc_c H
  have ne : ∀ i, 42 ≤ i → i ≤ 50 → ¬ k + 1 + 0 = i := fun i h1 h2 => by omega
  have t67 := T67 (σ := σ) (k := 42) (r := k + 1 + 0) (a := pR S (dR w)) (L := 1188) (kc_42 σ) k1.2.1 (ne 42 (by decide) (by decide)) (by have := pR_lt F (dR_10 hd); omega) (by decide)
  have e1 : ¬ vk (rgV S (dR w)) = 0 → rowN σ (k + 1 + 0) (pR S (dR w)) = vn (rgV S (dR w)) := fun z => rd_row (cAt_rg hS F.1 (dR_10 hd)) z
  generalize rowN σ (k + 1 + 0) (pR S (dR w)) = X at *
  have q1 : nfq (wC σ 42 X) σ := nfq_w (by omega)
  have H1 := SC_n q1 H
  have S1 := CSt_n sc q1 hS
  have t43 := T243 H1
  by_cases r : rgt w
  · have t67b := T67 (σ := wC σ 42 X) (k := 43) (r := k + 1 + 0) (a := pR S (sRr w)) (L := 1188) (kc_43 _) (sc_k H1).2.1 (ne 43 (by decide) (by decide)) (by have := pR_lt F (sR_10 (hs r)); omega) (by decide)
    have e2 : ¬ vk (rgV S (sRr w)) = 0 → rowN (wC σ 42 X) (k + 1 + 0) (pR S (sRr w)) = vn (rgV S (sRr w)) := fun z => rd_row (cAt_rg S1 F.1 (sR_10 (hs r))) z
    generalize rowN (wC σ 42 X) (k + 1 + 0) (pR S (sRr w)) = Y at *
    rw [b2_yes r] at t43
    refine ⟨X, Y, ?_, e1, fun z => ?_⟩
    · simp only [M248, e248_0, e248_15, e248_18, e248_22, e248_40, e248_43, e248_61, Option.getD_some, Option.bind_some, Option.toList_some, Option.toList_none, List.cons_append, List.nil_append, and_self, and_true, true_and, false_and, and_false, ite_self, not_true_eq_false, not_false_eq_true, reduceIte, Nat.reduceEqDiff, ab_I, ab_L, ab_R, ao_I, ao_L, ao_R, gL_sL, gI_sI, gR_sR, gI_sL, gI_sR, gL_sI, gL_sR, gR_sI, gR_sL, sc_h H, sc_ao H, T241 H hS F hd, aoR 42 (kc_42 _), t67, t43, oneI, sc_h H1, sc_ao H1, T242 H1 S1 F (hs r), aoR 43 (kc_43 _), t67b]
    · unfold rgtV
      rw [if_pos r]
      exact e2 (z r)
  · have t61 := T61 (σ := wC σ 42 X) (k := 43) (x1 := iL (fI w)) (kc_43 _)
    rw [b2_no r] at t43
    refine ⟨X, cstN (iL (fI w)), ?_, e1, fun z => ?_⟩
    · simp only [M248, e248_0, e248_15, e248_18, e248_22, e248_57, e248_61, Option.getD_some, Option.bind_some, Option.toList_some, Option.toList_none, List.cons_append, List.nil_append, and_self, and_true, true_and, false_and, and_false, ite_self, not_true_eq_false, not_false_eq_true, reduceIte, Nat.reduceEqDiff, ab_I, ab_L, ab_R, ao_I, ao_L, ao_R, gL_sL, gI_sI, gR_sR, gI_sL, gI_sR, gL_sI, gL_sR, gR_sI, gR_sL, sc_h H, sc_ao H, T241 H hS F hd, aoR 42 (kc_42 _), t67, t43, sc_w H1, T4, aoR 43 (kc_43 _), t61]
    · unfold rgtV
      rw [if_neg r]
      rfl
theorem T252 : MM 252 [mR (some 40)] σ = some (some (mI (w32 (gI σ 40 8 + 1))), sI σ 40 8 (w32 (gI σ 40 8 + 1))) := by
  simp only [M252, e252_0, Option.getD_some, Option.bind_some, Option.toList_some, Option.toList_none, List.cons_append, List.nil_append, and_self, and_true, true_and, false_and, and_false, ite_self, not_true_eq_false, not_false_eq_true, reduceIte, Nat.reduceEqDiff, ab_I, ab_L, ab_R, ao_I, ao_L, ao_R, gL_sL, gI_sI, gR_sR, gI_sL, gI_sR, gL_sI, gL_sR, gR_sI, gR_sL]
/-! what is behind an instruction -/
/-- f: the fault; else the state is S', the word n is next, one way -/
def spo (σ τ : MS) (k j : Nat) (f : Int) (S' : ST) (n t' : Int) : Prop := sfq τ σ k j ∧ (f = 0 → CSt τ k S' ∧ gI τ 40 4 = n ∧ gI τ 40 3 = gI σ 40 3 ∧ gI τ 40 8 = t')
theorem spo_f {f n t' : Int} {S' : ST} (hf : ¬ f = 0) (q : sfq τ σ k j) : spo σ τ k j f S' n t' := ⟨q, fun z => absurd z hf⟩
theorem spo_0 (hS : CSt σ k S) : spo σ σ k j 0 S (gI σ 40 4) (gI σ 40 8) := ⟨sfq_r _ _ _, fun _ => ⟨hS, rfl, rfl, rfl⟩⟩
/-- a number has come to a register, by way of Nums -/
theorem spo_w {ρ : MS} {r : Nat} (H : SC σ k j E w) (hS : CSt σ k S) (hF : 1 ≤ sF S ∧ sF S ≤ 4) (hr : r ≤ 9) (h1 : nfq ρ σ) (h2 : cxV τ ρ k (pR S r) v) : spo σ τ k j 0 (wV S r v) (gI σ 40 4) (gI σ 40 8) :=
  ⟨sfq_t (sfq_v h2) (sfq_n h1), fun _ => ⟨CSt_w hF (CSt_n (sc_c H) h1 hS) hr h2, (h2.1 _ _).trans (h1.1 _ _), (h2.1 _ _).trans (h1.1 _ _), (h2.1 _ _).trans (h1.1 _ _)⟩⟩
end CTX
