/-! ===== the class's helpers, whole ===== -/
section CHL3
variable {τ σ ρ : MS} {k j : Nat} {E : EV} {w : B64} {S : ST} {t n h : Int} {jx i : Nat}
abbrev lo5 (h : Int) (jx : Nat) (i : Int) : List (Option MV) := [some (mR (some 40)), some (mI h), some (mR (some (strK + jx))), some (mI i), none]
theorem L283s {r c : Nat} {f : Int} (H : SC σ k j E w) (hS : CSt σ k S) (P : PX S E t) (hj : jx < stN) (hi : i + 1 < (strAt jx).length) (hi2 : i < 100) (e0 : (strAt jx).getD i 0 = 48 + r) (hr : r ≤ 10) (e1 : (strAt jx).getD (i + 1) 0 = c) (hc : c < 256) (t84 : MM 284 [mR (some 40), mI ((pR S r : Nat) : Int), mI (c : Int)] σ = some (some (mI f), σ)) :
    RR (lkB tb283) (B283_28, lo5 h jx (i : Int), [], σ) = if f = 0 then RR (lkB tb283) (B283_28, [some (mR (some 40)), some (mI h), some (mR (some (strK + jx))), some (mI ((i + 2 : Nat) : Int)), some (mI f)], [], σ) else some (some (mI f), σ) := by
  have a := eq_true (ao_tx (σ := σ) hj)
  have l1 : i + 1 < 100000 := by omega
  have l2 : i + 2 < 100000 := by omega
  have nl : ¬ (((strAt jx).length : Nat) : Int) ≤ ((i + 1 : Nat) : Int) := by omega
  have t73 := T573t (σ := σ) hj
  have ta := T574t (σ := σ) (i := i) hj (by omega) (by omega)
  have tb := T574t (σ := σ) (i := i + 1) hj hi (by omega)
  rw [e0] at ta
  rw [e1] at tb
  have e48 : ((48 + r : Nat) : Int) - 48 = (r : Int) := by omega
  have w48 : w32 (((48 + r : Nat) : Int) - 48) = (r : Int) := by rw [e48]; exact w32_i (by omega) (by omega)
  have t12 := T212r H hS P hr
  simp only [e283_28, e283_35, e283_48, e283_54, e283_61, e283_64, Option.getD_some, Option.bind_some, Option.toList_some, Option.toList_none, List.cons_append, List.nil_append, and_self, and_true, true_and, false_and, and_false, ite_self, not_true_eq_false, not_false_eq_true, reduceIte, Nat.reduceEqDiff, ab_I, ab_L, ab_R, ao_I, ao_L, ao_R, gL_sL, gI_sI, gR_sR, gI_sL, gI_sR, gL_sI, gL_sR, gR_sI, gR_sL, a, t73, wp1 l1, nl, ta, tb, sc_h H, sc_ao H, w48, t12, t84, wp2 l2]
/-- the answer's fault, and what is so behind it -/
def finJ (σ : MS) (k j : Nat) (S : ST) (h n t : Int) (o : Option Rs) (F : Int) : Prop := okc o (some (mI (if F = 0 then (ansJ S h n t).1 else F))) (fun τ => if F = 0 then spj σ τ k j (ansJ S h n t) else sfq τ σ k j)
theorem fin_s {r c : Nat} {f F : Int} (H : SC σ k j E w) (hS : CSt σ k S) (P : PX S E t) (hj : jx < stN) (hi : i + 1 < (strAt jx).length) (hi2 : i < 100) (e0 : (strAt jx).getD i 0 = 48 + r) (hr : r ≤ 10) (e1 : (strAt jx).getD (i + 1) 0 = c) (hc : c < 256) (t84 : MM 284 [mR (some 40), mI ((pR S r : Nat) : Int), mI (c : Int)] σ = some (some (mI f), σ))
    (nx : f = 0 → finJ σ k j S h n t (RR (lkB tb283) (B283_28, lo5 h jx ((i + 2 : Nat) : Int), [], σ)) F) : finJ σ k j S h n t (RR (lkB tb283) (B283_28, lo5 h jx (i : Int), [], σ)) (fst f F) := by
  have s := L283s (h := h) H hS P hj hi hi2 e0 hr e1 hc t84
  unfold fst
  by_cases f0 : f = 0
  · rw [if_pos f0] at s ⊢
    obtain ⟨τ, a, b⟩ := nx f0
    refine ⟨τ, ?_, b⟩
    rw [s]
    exact RR_q a (by repeat (first | exact lq_nil | refine lq_cons (Or.inr rfl) ?_ | refine lq_cons (Or.inl rfl) ?_))
  · rw [if_neg f0] at s ⊢
    rw [s]
    refine ⟨σ, ?_, ?_⟩
    · rw [if_neg f0]
    · exact Eq.mpr (if_neg f0) (sfq_r _ _ _)
abbrev endF (S : ST) (h : Int) : Int := if h = 12 then (if 1 < sF S then 8 else if sH S = [] then 0 else 10) else 0
theorem fin_e (H : SC σ k j E w) (hS : CSt σ k S) (P : PX S E t) (ht : gI σ 40 8 = t) (h4 : gI σ 40 4 = n) (h3 : gI σ 40 3 = 0) (hj : jx < stN) (hi : (strAt jx).length ≤ i + 1) (hi2 : i < 100) (a : argJ E S h) : finJ σ k j S h n t (RR (lkB tb283) (B283_28, lo5 h jx (i : Int), [], σ)) (endF S h) := by
  have ax := eq_true (ao_tx (σ := σ) hj)
  have l1 : i + 1 < 100000 := by omega
  have le : (((strAt jx).length : Nat) : Int) ≤ ((i + 1 : Nat) : Int) := by omega
  have t73 := T573t (σ := σ) hj
  have f3 : gI σ k 3 = (sF S : Int) := hS.1.1
  have f4 : gI σ k 4 = ((sH S).length : Int) := hS.1.2
  unfold finJ endF
  by_cases h12 : h = 12
  · rw [if_pos h12]
    by_cases f1 : 1 < sF S
    · have n1 : ¬ (sF S : Int) ≤ 1 := by omega
      rw [if_pos f1]
      refine ⟨σ, ?_, ?_⟩
      · rw [if_neg (by decide), h12]
        simp only [e283_28, e283_35, Option.getD_some, Option.bind_some, Option.toList_some, Option.toList_none, List.cons_append, List.nil_append, and_self, and_true, true_and, false_and, and_false, ite_self, not_true_eq_false, not_false_eq_true, reduceIte, Nat.reduceEqDiff, ab_I, ab_L, ab_R, ao_I, ao_L, ao_R, gL_sL, gI_sI, gR_sR, gI_sL, gI_sR, gL_sI, gL_sR, gR_sI, gR_sL, ax, t73, wp1 l1, le, sc_h H, sc_ao H, f3, n1]
      · exact Eq.mpr (if_neg (show ¬ (8 : Int) = 0 by decide)) (sfq_r _ _ _)
    · have n1 : (sF S : Int) ≤ 1 := by omega
      rw [if_neg f1]
      by_cases hh : sH S = []
      · rw [if_pos hh]
        have n4 : ((sH S).length : Int) ≤ 0 := by rw [hh]; decide
        obtain ⟨τ, t89, b⟩ := T289 H hS P ht h4 h3 a
        refine ⟨τ, ?_, ?_⟩
        · rw [if_pos rfl]
          rw [h12] at t89 ⊢
          simp only [e283_28, e283_35, e283_100, e283_119, e283_124, Option.getD_some, Option.bind_some, Option.toList_some, Option.toList_none, List.cons_append, List.nil_append, and_self, and_true, true_and, false_and, and_false, ite_self, not_true_eq_false, not_false_eq_true, reduceIte, Nat.reduceEqDiff, ab_I, ab_L, ab_R, ao_I, ao_L, ao_R, gL_sL, gI_sI, gR_sR, gI_sL, gI_sR, gL_sI, gL_sR, gR_sI, gR_sL, ax, t73, wp1 l1, le, sc_h H, sc_ao H, f3, n1, f4, n4, t89]
        · exact Eq.mpr (if_pos rfl) b
      · rw [if_neg hh]
        have n4 : ¬ ((sH S).length : Int) ≤ 0 := by
          have : 0 < (sH S).length := List.length_pos_iff.mpr hh
          omega
        refine ⟨σ, ?_, ?_⟩
        · rw [if_neg (by decide), h12]
          simp only [e283_28, e283_35, e283_100, Option.getD_some, Option.bind_some, Option.toList_some, Option.toList_none, List.cons_append, List.nil_append, and_self, and_true, true_and, false_and, and_false, ite_self, not_true_eq_false, not_false_eq_true, reduceIte, Nat.reduceEqDiff, ab_I, ab_L, ab_R, ao_I, ao_L, ao_R, gL_sL, gI_sI, gR_sR, gI_sL, gI_sR, gL_sI, gL_sR, gR_sI, gR_sL, ax, t73, wp1 l1, le, sc_h H, sc_ao H, f3, n1, f4, n4]
        · exact Eq.mpr (if_neg (show ¬ (10 : Int) = 0 by decide)) (sfq_r _ _ _)
  · rw [if_neg h12]
    obtain ⟨τ, t89, b⟩ := T289 H hS P ht h4 h3 a
    refine ⟨τ, ?_, ?_⟩
    · rw [if_pos rfl]
      simp only [e283_28, e283_35, e283_100, e283_119, e283_124, Option.getD_some, Option.bind_some, Option.toList_some, Option.toList_none, List.cons_append, List.nil_append, and_self, and_true, true_and, false_and, and_false, ite_self, not_true_eq_false, not_false_eq_true, reduceIte, Nat.reduceEqDiff, ab_I, ab_L, ab_R, ao_I, ao_L, ao_R, gL_sL, gI_sI, gR_sR, gI_sL, gI_sR, gL_sI, gL_sR, gR_sI, gR_sL, ax, t73, wp1 l1, le, eq_false h12, t89]
    · exact Eq.mpr (if_pos rfl) b
theorem fst_as (a b c : Int) : fst (fst a b) c = fst a (fst b c) := by
  unfold fst
  by_cases h : a = 0
  · rw [if_pos h, if_pos h]
  · rw [if_neg h, if_neg h, if_neg h]
theorem fst_z (a : Int) : fst a 0 = a := by
  unfold fst
  by_cases h : a = 0
  · rw [if_pos h, h]
  · rw [if_neg h]
theorem wntA_z {x : VL} {p : Bool} (h : wntA x p = 0) : p = true := by
  unfold wntA at h
  split at h
  · exact absurd h (by decide)
  · split at h
    · exact absurd h (by decide)
    · split at h
      · assumption
      · exact absurd h (by decide)
theorem ans_hlp (hf : hlpF E S h = 0) (hh : h = 131 → ¬ (sH S).length = 64) : hlpJ E S h n t = ansJ S h n t := by
  unfold hlpJ ansJ
  rw [if_neg (not_not_intro hf)]
  by_cases h1 : h = 1
  · rw [if_pos h1, if_pos h1]
  · rw [if_neg h1, if_neg h1]
    by_cases h131 : h = 131
    · rw [if_pos h131, if_pos h131, if_neg (hh h131)]
    · rw [if_neg h131, if_neg h131]
/-- from the loop to the whole -/
theorem T283w (hf : (hlpF E S h = 0 → h = 131 → ¬ (sH S).length = 64)) {o : Option Rs} (hF : finJ σ k j S h n t o (hlpF E S h)) : okc o (some (mI (hlpJ E S h n t).1)) (fun τ => spj σ τ k j (hlpJ E S h n t)) := by
  obtain ⟨τ, a, b⟩ := hF
  by_cases z : hlpF E S h = 0
  · rw [if_pos z] at a b
    rw [ans_hlp z (hf z)]
    exact ⟨τ, a, b⟩
  · rw [if_neg z] at a b
    have e : hlpJ E S h n t = (hlpF E S h, none, none, t) := if_pos z
    rw [e]
    exact ⟨τ, a, spj_f z b⟩
theorem L283a {jx : Nat} (hj : jx < stN) (e : (if h = 1 ∨ h = 3 then 79 else if h = 2 then 80 else if h = 6 then 81 else if h = 12 then 82 else if h = 26 then 83 else if h = 44 then 84 else if h = 131 then 85 else if h = 132 ∨ h = 133 then 86 else 87) = jx) (hl : ¬ (strAt jx).length = 0 ∨ h = 5 ∨ h = 7) : MM 283 [mR (some 40), mI h] σ = RR (lkB tb283) (B283_28, lo5 h jx 0, [], σ) := by
  have t82 := T282 (σ := σ) (h := h)
  rw [e] at t82
  have a := eq_true (ao_tx (σ := σ) hj)
  have t73 := T573t (σ := σ) hj
  by_cases l0 : (strAt jx).length = 0
  · have z : (((strAt jx).length : Nat) : Int) = 0 := by omega
    rcases hl with q | q | q
    · exact absurd l0 q
    · have h7 : ¬ h = 7 := by omega
      simp only [M283, e283_0, e283_4, e283_9, e283_26, Option.getD_some, Option.bind_some, Option.toList_some, Option.toList_none, List.cons_append, List.nil_append, and_self, and_true, true_and, false_and, and_false, ite_self, not_true_eq_false, not_false_eq_true, reduceIte, Nat.reduceEqDiff, ab_I, ab_L, ab_R, ao_I, ao_L, ao_R, gL_sL, gI_sI, gR_sR, gI_sL, gI_sR, gL_sI, gL_sR, gR_sI, gR_sL, t82, a, t73, z, eq_true q]
    · have h5 : ¬ h = 5 := by omega
      simp only [M283, e283_0, e283_4, e283_9, e283_26, Option.getD_some, Option.bind_some, Option.toList_some, Option.toList_none, List.cons_append, List.nil_append, and_self, and_true, true_and, false_and, and_false, ite_self, not_true_eq_false, not_false_eq_true, reduceIte, Nat.reduceEqDiff, ab_I, ab_L, ab_R, ao_I, ao_L, ao_R, gL_sL, gI_sI, gR_sR, gI_sL, gI_sR, gL_sI, gL_sR, gR_sI, gR_sL, t82, a, t73, z, eq_false h5, eq_true q]
  · have z : ¬ (((strAt jx).length : Nat) : Int) = 0 := by omega
    simp only [M283, e283_0, e283_4, e283_9, e283_26, Option.getD_some, Option.bind_some, Option.toList_some, Option.toList_none, List.cons_append, List.nil_append, and_self, and_true, true_and, false_and, and_false, ite_self, not_true_eq_false, not_false_eq_true, reduceIte, Nat.reduceEqDiff, ab_I, ab_L, ab_R, ao_I, ao_L, ao_R, gL_sL, gI_sI, gR_sR, gI_sL, gI_sR, gL_sI, gL_sR, gR_sI, gR_sL, t82, a, t73, eq_false z]
theorem toI_s {x : B64} {m : Nat} (hm : m < 1000) (h : ¬ BitVec.ofNat 64 m < x) : x.toNat ≤ m ∧ x.toInt = (x.toNat : Int) := by
  rw [BitVec.lt_def, BitVec.toNat_ofNat, Nat.mod_eq_of_lt (by omega)] at h
  refine ⟨by omega, ?_⟩
  rw [BitVec.toInt_eq_toNat_cond, if_pos (by omega)]
/-- a map whose keys and values are told -/
theorem map_k (P : PX S E t) (hE : okE E) (h : wntM E (rgV S 1) 0 1 = 0) : vk (rgV S 1) = 4 ∧ (0 ≤ vw (rgV S 1) ∧ vw (rgV S 1) ≤ 7) ∧ (0 ≤ E.2.1 (vw (rgV S 1)).toNat ∧ E.2.1 (vw (rgV S 1)).toNat ≤ 128) ∧ (0 ≤ E.2.2 (vw (rgV S 1)).toNat ∧ E.2.2 (vw (rgV S 1)).toNat ≤ 128) := by
  have q := of_decide_eq_true (wntA_z h)
  have o := (rV_ok P.1 (show 1 ≤ 10 by decide)).2.2.2.1 q.1
  have e := hE (vw (rgV S 1)).toNat (by omega) o.2.2
  have e2 := e.2 q.2.2
  exact ⟨q.1, ⟨o.1, o.2.1⟩, by omega, by omega⟩
theorem T283 (H : SC σ k j E w) (hS : CSt σ k S) (P : PX S E t) (hE : okE E) (ht : gI σ 40 8 = t) (h4 : gI σ 40 4 = n) (h3 : gI σ 40 3 = 0) : okc (MM 283 [mR (some 40), mI h] σ) (some (mI (hlpJ E S h n t).1)) (fun τ => spj σ τ k j (hlpJ E S h n t)) := by
  have N : ∀ {r : Nat} {c : Int} {b : Bool}, r ≤ 10 → (c = 109 ∨ c = 112 ∨ c = 114 ∨ c = 99 ∨ c = 116 ∨ c = 119 ∨ c = 105 ∨ c = 104 ∨ c = 110) → ((b = true) ↔ wntP E (rgV S r) c) → MM 284 [mR (some 40), mI ((pR S r : Nat) : Int), mI c] σ = some (some (mI (wntA (rgV S r) b)), σ) := fun hr hc hb => T284n H hS P hr hc hb
  have dB : ∀ {p q : Prop} {d : Decidable p}, (p ↔ q) → ((@decide p d = true) ↔ q) := fun e => (decide_eq_true_iff).trans e
  by_cases c1 : h = 1 ∨ h = 3
  · rw [L283a (jx := 79) (by decide) (if_pos c1) (Or.inl (by rw [st_79]; decide))]
    refine T283w (fun _ z => by omega) ?_
    have e : hlpF E S h = fst (wntM E (rgV S 1) 0 1) (fst (wntB E S (rgV S 2) (E.2.1 (vw (rgV S 1)).toNat)) (endF S h)) := by
      have z : endF S h = 0 := if_neg (by omega)
      rw [z, fst_z]
      exact if_pos c1
    rw [e]
    refine fin_s (i := 0) (r := 1) (c := 109) H hS P (by decide) (by rw [st_79]; decide) (by decide) (by rw [st_79]; rfl) (by decide) (by rw [st_79]; rfl) (by decide) (N (by decide) (by omega) (dB Iff.rfl)) (fun z1 => ?_)
    have m := map_k P hE z1
    refine fin_s (i := 2) (r := 2) (c := 107) H hS P (by decide) (by rw [st_79]; decide) (by decide) (by rw [st_79]; rfl) (by decide) (by rw [st_79]; rfl) (by decide) (T284b H hS P (by decide) m.2.2.1 (Or.inl ⟨rfl, m.2.1, rfl⟩)) (fun z2 => ?_)
    exact fin_e (i := 4) H hS P ht h4 h3 (by decide) (by rw [st_79]; decide) (by decide) ⟨fun _ => m.1, fun z => by omega, fun z => by omega⟩
  · by_cases c2 : h = 2
    · rw [L283a (jx := 80) (by decide) (by rw [if_neg c1, if_pos c2]) (Or.inl (by rw [st_80]; decide))]
      refine T283w (fun _ z => by omega) ?_
      have e : hlpF E S h = fst (wntM E (rgV S 1) 0 1) (fst (wntB E S (rgV S 2) (E.2.1 (vw (rgV S 1)).toNat)) (fst (wntB E S (rgV S 3) (E.2.2 (vw (rgV S 1)).toNat)) (fst (wntK (rgV S 4) 1) (endF S h)))) := by
        have z : endF S h = 0 := if_neg (by omega)
        rw [z, fst_z, ← fst_as, ← fst_as]
        unfold hlpF
        rw [if_neg c1, if_pos c2]
      rw [e]
      refine fin_s (i := 0) (r := 1) (c := 109) H hS P (by decide) (by rw [st_80]; decide) (by decide) (by rw [st_80]; rfl) (by decide) (by rw [st_80]; rfl) (by decide) (N (by decide) (by omega) (dB Iff.rfl)) (fun z1 => ?_)
      have m := map_k P hE z1
      refine fin_s (i := 2) (r := 2) (c := 107) H hS P (by decide) (by rw [st_80]; decide) (by decide) (by rw [st_80]; rfl) (by decide) (by rw [st_80]; rfl) (by decide) (T284b H hS P (by decide) m.2.2.1 (Or.inl ⟨rfl, m.2.1, rfl⟩)) (fun z2 => ?_)
      refine fin_s (i := 4) (r := 3) (c := 118) H hS P (by decide) (by rw [st_80]; decide) (by decide) (by rw [st_80]; rfl) (by decide) (by rw [st_80]; rfl) (by decide) (T284b H hS P (by decide) m.2.2.2 (Or.inr (Or.inl ⟨rfl, m.2.1, rfl⟩))) (fun z3 => ?_)
      refine fin_s (i := 6) (r := 4) (c := 110) H hS P (by decide) (by rw [st_80]; decide) (by decide) (by rw [st_80]; rfl) (by decide) (by rw [st_80]; rfl) (by decide) (N (by decide) (by omega) (dB Iff.rfl)) (fun z4 => ?_)
      exact fin_e (i := 8) H hS P ht h4 h3 (by decide) (by rw [st_80]; decide) (by decide) ⟨fun z => by omega, fun z => by omega, fun z => by omega⟩
    · by_cases c6 : h = 6
      · rw [L283a (jx := 81) (by decide) (by rw [if_neg c1, if_neg c2, if_pos c6]) (Or.inl (by rw [st_81]; decide))]
        refine T283w (fun _ z => by omega) ?_
        have e : hlpF E S h = fst (wntA (rgV S 2) (decide (vk (rgV S 2) = 1 ∧ ¬ jA (vn (rgV S 2)) = 0#64 ∧ ¬ 64#64 < jB (vn (rgV S 2))))) (fst (wntB E S (rgV S 1) (jB (vn (rgV S 2))).toInt) (endF S h)) := by
          have z : endF S h = 0 := if_neg (by omega)
          rw [z, fst_z]
          unfold hlpF
          rw [if_neg c1, if_neg c2, if_neg (by omega), if_pos c6]
        rw [e]
        refine fin_s (i := 0) (r := 2) (c := 116) H hS P (by decide) (by rw [st_81]; decide) (by decide) (by rw [st_81]; rfl) (by decide) (by rw [st_81]; rfl) (by decide) (N (by decide) (by omega) (dB Iff.rfl)) (fun z1 => ?_)
        have m := of_decide_eq_true (wntA_z z1)
        have b := toI_s (m := 64) (by decide) m.2.2
        refine fin_s (i := 2) (r := 1) (c := 98) H hS P (by decide) (by rw [st_81]; decide) (by decide) (by rw [st_81]; rfl) (by decide) (by rw [st_81]; rfl) (by decide) (T284b H hS P (by decide) (by omega) (Or.inr (Or.inr ⟨rfl, iL_ti _⟩))) (fun z2 => ?_)
        exact fin_e (i := 4) H hS P ht h4 h3 (by decide) (by rw [st_81]; decide) (by decide) ⟨fun z => by omega, fun z => by omega, fun z => by omega⟩
      · by_cases c12 : h = 12
        · rw [L283a (jx := 82) (by decide) (by rw [if_neg c1, if_neg c2, if_neg c6, if_pos c12]) (Or.inl (by rw [st_82]; decide))]
          refine T283w (fun _ z => by omega) ?_
          have e : hlpF E S h = fst (wntK (rgV S 1) 2) (fst (wntM E (rgV S 2) 2 2) (fst (wntK (rgV S 3) 1) (endF S h))) := by
            have z : endF S h = (if 1 < sF S then 8 else if sH S = [] then 0 else 10) := if_pos c12
            rw [z, ← fst_as, ← fst_as]
            unfold hlpF
            rw [if_neg c1, if_neg c2, if_neg (by omega), if_neg c6, if_pos c12]
          rw [e]
          refine fin_s (i := 0) (r := 1) (c := 99) H hS P (by decide) (by rw [st_82]; decide) (by decide) (by rw [st_82]; rfl) (by decide) (by rw [st_82]; rfl) (by decide) (N (by decide) (by omega) (dB Iff.rfl)) (fun z1 => ?_)
          refine fin_s (i := 2) (r := 2) (c := 112) H hS P (by decide) (by rw [st_82]; decide) (by decide) (by rw [st_82]; rfl) (by decide) (by rw [st_82]; rfl) (by decide) (N (by decide) (by omega) (dB Iff.rfl)) (fun z2 => ?_)
          refine fin_s (i := 4) (r := 3) (c := 110) H hS P (by decide) (by rw [st_82]; decide) (by decide) (by rw [st_82]; rfl) (by decide) (by rw [st_82]; rfl) (by decide) (N (by decide) (by omega) (dB Iff.rfl)) (fun z3 => ?_)
          exact fin_e (i := 6) H hS P ht h4 h3 (by decide) (by rw [st_82]; decide) (by decide) ⟨fun z => by omega, fun z => by omega, fun z => by omega⟩
        · by_cases c26 : h = 26
          · rw [L283a (jx := 83) (by decide) (by rw [if_neg c1, if_neg c2, if_neg c6, if_neg c12, if_pos c26]) (Or.inl (by rw [st_83]; decide))]
            refine T283w (fun _ z => by omega) ?_
            have e : hlpF E S h = fst (wntK (rgV S 1) 2) (fst (wntK (rgV S 2) 1) (fst (wntA (rgV S 4) (decide (vk (rgV S 4) = 1 ∧ ¬ jA (vn (rgV S 4)) = 0#64 ∧ ¬ 128#64 < jB (vn (rgV S 4))))) (fst (fst (wntK (rgV S 3) 3) (if room E (rgV S 3) 0 (jB (vn (rgV S 4))).toInt then 0 else 5)) (endF S h)))) := by
              have z : endF S h = 0 := if_neg (by omega)
              rw [z, fst_z, ← fst_as, ← fst_as, ← fst_as]
              unfold hlpF
              rw [if_neg c1, if_neg c2, if_neg (by omega), if_neg c6, if_neg c12, if_pos c26]
            rw [e]
            refine fin_s (i := 0) (r := 1) (c := 99) H hS P (by decide) (by rw [st_83]; decide) (by decide) (by rw [st_83]; rfl) (by decide) (by rw [st_83]; rfl) (by decide) (N (by decide) (by omega) (dB Iff.rfl)) (fun z1 => ?_)
            refine fin_s (i := 2) (r := 2) (c := 110) H hS P (by decide) (by rw [st_83]; decide) (by decide) (by rw [st_83]; rfl) (by decide) (by rw [st_83]; rfl) (by decide) (N (by decide) (by omega) (dB Iff.rfl)) (fun z2 => ?_)
            refine fin_s (i := 4) (r := 4) (c := 119) H hS P (by decide) (by rw [st_83]; decide) (by decide) (by rw [st_83]; rfl) (by decide) (by rw [st_83]; rfl) (by decide) (N (by decide) (by omega) (dB Iff.rfl)) (fun z3 => ?_)
            have m := of_decide_eq_true (wntA_z z3)
            have b := toI_s (m := 128) (by decide) m.2.2
            refine fin_s (i := 6) (r := 3) (c := 115) H hS P (by decide) (by rw [st_83]; decide) (by decide) (by rw [st_83]; rfl) (by decide) (by rw [st_83]; rfl) (by decide) (T284s H hS P (by decide) (by omega) (iL_ti _)) (fun z4 => ?_)
            have z5 : wntK (rgV S 3) 3 = 0 := by
              apply Classical.byContradiction
              intro q
              unfold fst at z4
              rw [if_neg q] at z4
              exact q z4
            have k3 := of_decide_eq_true (wntA_z z5)
            have rm : room E (rgV S 3) 0 (jB (vn (rgV S 4))).toInt := by
              apply Classical.byContradiction
              intro q
              unfold fst at z4
              rw [if_pos z5, if_neg q] at z4
              exact absurd z4 (by decide)
            exact fin_e (i := 8) H hS P ht h4 h3 (by decide) (by rw [st_83]; decide) (by decide) ⟨fun z => by omega, fun _ => ⟨k3, rm, m.2.2⟩, fun z => by omega⟩
          · by_cases c44 : h = 44
            · rw [L283a (jx := 84) (by decide) (by rw [if_neg c1, if_neg c2, if_neg c6, if_neg c12, if_neg c26, if_pos c44]) (Or.inl (by rw [st_84]; decide))]
              refine T283w (fun _ z => by omega) ?_
              have e : hlpF E S h = fst (wntK (rgV S 1) 2) (fst (wntK (rgV S 2) 1) (endF S h)) := by
                have z : endF S h = 0 := if_neg (by omega)
                rw [z, fst_z]
                unfold hlpF
                rw [if_neg c1, if_neg c2, if_neg (by omega), if_neg c6, if_neg c12, if_neg c26, if_pos c44]
              rw [e]
              refine fin_s (i := 0) (r := 1) (c := 99) H hS P (by decide) (by rw [st_84]; decide) (by decide) (by rw [st_84]; rfl) (by decide) (by rw [st_84]; rfl) (by decide) (N (by decide) (by omega) (dB Iff.rfl)) (fun z1 => ?_)
              refine fin_s (i := 2) (r := 2) (c := 110) H hS P (by decide) (by rw [st_84]; decide) (by decide) (by rw [st_84]; rfl) (by decide) (by rw [st_84]; rfl) (by decide) (N (by decide) (by omega) (dB Iff.rfl)) (fun z2 => ?_)
              exact fin_e (i := 4) H hS P ht h4 h3 (by decide) (by rw [st_84]; decide) (by decide) ⟨fun z => by omega, fun z => by omega, fun z => by omega⟩
            · by_cases c131 : h = 131
              · rw [L283a (jx := 85) (by decide) (by rw [if_neg c1, if_neg c2, if_neg c6, if_neg c12, if_neg c26, if_neg c44, if_pos c131]) (Or.inl (by rw [st_85]; decide))]
                have e : hlpF E S h = fst (fst (wntM E (rgV S 1) 3 3) (fst (wntA (rgV S 2) (decide (vk (rgV S 2) = 1 ∧ isC (vn (rgV S 2)) ∧ 1 ≤ (jV (vn (rgV S 2))).toInt ∧ (jV (vn (rgV S 2))).toInt ≤ 64))) (fst (wntK (rgV S 3) 1) (endF S h)))) (if (sH S).length = 64 then 12 else 0) := by
                  have z : endF S h = 0 := if_neg (by omega)
                  rw [z, fst_z, ← fst_as]
                  unfold hlpF
                  rw [if_neg c1, if_neg c2, if_neg (by omega), if_neg c6, if_neg c12, if_neg c26, if_neg c44, if_pos c131]
                have key : finJ σ k j S h n t (RR (lkB tb283) (B283_28, lo5 h 85 0, [], σ)) (fst (wntM E (rgV S 1) 3 3) (fst (wntA (rgV S 2) (decide (vk (rgV S 2) = 1 ∧ isC (vn (rgV S 2)) ∧ 1 ≤ (jV (vn (rgV S 2))).toInt ∧ (jV (vn (rgV S 2))).toInt ≤ 64))) (fst (wntK (rgV S 3) 1) (endF S h)))) := by
                  refine fin_s (i := 0) (r := 1) (c := 114) H hS P (by decide) (by rw [st_85]; decide) (by decide) (by rw [st_85]; rfl) (by decide) (by rw [st_85]; rfl) (by decide) (N (by decide) (by omega) (dB Iff.rfl)) (fun z1 => ?_)
                  refine fin_s (i := 2) (r := 2) (c := 105) H hS P (by decide) (by rw [st_85]; decide) (by decide) (by rw [st_85]; rfl) (by decide) (by rw [st_85]; rfl) (by decide) (N (by decide) (by omega) (dB Iff.rfl)) (fun z2 => ?_)
                  have m := of_decide_eq_true (wntA_z z2)
                  refine fin_s (i := 4) (r := 3) (c := 110) H hS P (by decide) (by rw [st_85]; decide) (by decide) (by rw [st_85]; rfl) (by decide) (by rw [st_85]; rfl) (by decide) (N (by decide) (by omega) (dB Iff.rfl)) (fun z3 => ?_)
                  exact fin_e (i := 6) H hS P ht h4 h3 (by decide) (by rw [st_85]; decide) (by decide) ⟨fun z => by omega, fun z => by omega, fun _ => m.1⟩
                by_cases full : (sH S).length = 64
                · obtain ⟨τ, a, b⟩ := key
                  rw [if_pos full] at e
                  have an : ansJ S h n t = (12, none, none, t) := by
                    unfold ansJ
                    rw [if_neg (by omega), if_pos c131, if_pos full]
                  rw [an] at a b
                  have nz : ¬ hlpF E S h = 0 := by
                    have nzg : ∀ G : Int, ¬ fst G 12 = 0 := fun G => by
                      unfold fst
                      split
                      · decide
                      · assumption
                    rw [e]
                    exact nzg _
                  have ej : hlpJ E S h n t = (hlpF E S h, none, none, t) := if_pos nz
                  rw [ej, e]
                  generalize fst (wntM E (rgV S 1) 3 3) (fst (wntA (rgV S 2) (decide (vk (rgV S 2) = 1 ∧ isC (vn (rgV S 2)) ∧ 1 ≤ (jV (vn (rgV S 2))).toInt ∧ (jV (vn (rgV S 2))).toInt ≤ 64))) (fst (wntK (rgV S 3) 1) (endF S h))) = G at *
                  unfold fst
                  by_cases g0 : G = 0
                  · rw [if_pos g0] at a b ⊢
                    exact ⟨τ, a, spj_f (by decide) b.1⟩
                  · rw [if_neg g0] at a b ⊢
                    exact ⟨τ, a, spj_f g0 b⟩
                · refine T283w (fun _ _ => full) ?_
                  rw [e, if_neg full, fst_z]
                  exact key
              · by_cases c3 : h = 132 ∨ h = 133
                · rw [L283a (jx := 86) (by decide) (by rw [if_neg c1, if_neg c2, if_neg c6, if_neg c12, if_neg c26, if_neg c44, if_neg c131, if_pos c3]) (Or.inl (by rw [st_86]; decide))]
                  refine T283w (fun _ z => by omega) ?_
                  have e : hlpF E S h = fst (wntA (rgV S 1) (decide (vk (rgV S 1) = 9 ∧ vo (rgV S 1) = 0 ∧ isC (vn (rgV S 1)) ∧ jV (vn (rgV S 1)) = 0#64))) (fst (wntK (rgV S 2) 1) (endF S h)) := by
                    have z : endF S h = 0 := if_neg (by omega)
                    rw [z, fst_z]
                    unfold hlpF
                    rw [if_neg c1, if_neg c2, if_neg (by omega), if_neg c6, if_neg c12, if_neg c26, if_neg c44, if_neg c131, if_pos c3]
                  rw [e]
                  refine fin_s (i := 0) (r := 1) (c := 104) H hS P (by decide) (by rw [st_86]; decide) (by decide) (by rw [st_86]; rfl) (by decide) (by rw [st_86]; rfl) (by decide) (N (by decide) (by omega) (dB Iff.rfl)) (fun z1 => ?_)
                  refine fin_s (i := 2) (r := 2) (c := 110) H hS P (by decide) (by rw [st_86]; decide) (by decide) (by rw [st_86]; rfl) (by decide) (by rw [st_86]; rfl) (by decide) (N (by decide) (by omega) (dB Iff.rfl)) (fun z2 => ?_)
                  exact fin_e (i := 4) H hS P ht h4 h3 (by decide) (by rw [st_86]; decide) (by decide) ⟨fun z => by omega, fun z => by omega, fun z => by omega⟩
                · have e87 : (if h = 1 ∨ h = 3 then 79 else if h = 2 then 80 else if h = 6 then 81 else if h = 12 then 82 else if h = 26 then 83 else if h = 44 then 84 else if h = 131 then 85 else if h = 132 ∨ h = 133 then 86 else 87) = 87 := by rw [if_neg c1, if_neg c2, if_neg c6, if_neg c12, if_neg c26, if_neg c44, if_neg c131, if_neg c3]
                  by_cases c57 : h = 5 ∨ h = 7
                  · rw [L283a (jx := 87) (by decide) e87 (Or.inr c57)]
                    refine T283w (fun _ z => by omega) ?_
                    have e : hlpF E S h = endF S h := by
                      have z : endF S h = 0 := if_neg c12
                      rw [z]
                      unfold hlpF
                      rw [if_neg c1, if_neg c2, if_pos c57]
                    rw [e]
                    exact fin_e (i := 0) H hS P ht h4 h3 (by decide) (by rw [st_87]; decide) (by decide) ⟨fun z => by omega, fun z => by omega, fun z => by omega⟩
                  · have t82 := T282 (σ := σ) (h := h)
                    rw [e87] at t82
                    have hj : 87 < stN := by decide
                    have a := eq_true (ao_tx (σ := σ) hj)
                    have t73 := T573t (σ := σ) hj
                    rw [st_87] at t73
                    have t73 : MM 573 [mR (some (strK + 87))] σ = some (some (mI 0), σ) := t73
                    have n5 : ¬ h = 5 := fun z => c57 (Or.inl z)
                    have n7 : ¬ h = 7 := fun z => c57 (Or.inr z)
                    have e : hlpF E S h = 8 := by
                      unfold hlpF
                      rw [if_neg c1, if_neg c2, if_neg c57, if_neg c6, if_neg c12, if_neg c26, if_neg c44, if_neg c131, if_neg c3]
                    have ej : hlpJ E S h n t = (8, none, none, t) := by
                      unfold hlpJ
                      rw [e, if_pos (by decide)]
                    rw [ej]
                    refine okc_o (τ := σ) ?_ (spj_f (by decide) (sfq_r _ _ _))
                    simp only [M283, e283_0, e283_4, e283_9, Option.getD_some, Option.bind_some, Option.toList_some, Option.toList_none, List.cons_append, List.nil_append, and_self, and_true, true_and, false_and, and_false, ite_self, not_true_eq_false, not_false_eq_true, reduceIte, Nat.reduceEqDiff, ab_I, ab_L, ab_R, ao_I, ao_L, ao_R, gL_sL, gI_sI, gR_sR, gI_sL, gI_sR, gL_sI, gL_sR, gR_sI, gR_sL, t82, a, t73, eq_false n5, eq_false n7]
end CHL3
