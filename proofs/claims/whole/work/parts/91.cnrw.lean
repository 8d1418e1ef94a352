/-! ===== the class's NARROWED ===== -/
section CNRW
variable {τ σ ρ : MS} {k j p q : Nat} {E : EV} {w : B64} {S S' : ST} {t n g : Int} {c : Int} {x y : N6} {d : B64}
def setN (n : N6) (s : Nat) (v : B64) : N6 := (if s = 0 then v else n.1, if s = 1 then v else n.2.1, if s = 2 then v else n.2.2.1, if s = 3 then v else n.2.2.2.1, if s = 4 then v else n.2.2.2.2.1, if s = 5 then v else n.2.2.2.2.2)
theorem rC_sL {i s : Nat} {v : B64} {z : Nat} : rC (sL σ i s v) z = if z = i then setN (rC σ i) s v else rC σ z := by
  by_cases e : z = i
  · subst e
    rw [if_pos rfl]
    unfold rC setN
    simp only [gL_sL, true_and, eq_comm]
  · rw [if_neg e]
    unfold rC
    simp only [gL_sL, e, false_and, if_false]
theorem nfq_l {i s : Nat} {v : B64} (h : 42 ≤ i ∧ i ≤ 50) : nfq (sL σ i s v) σ := ⟨fun _ _ => rfl, fun k s' p => by rw [gL_sL, if_neg (by omega)], rfl⟩
theorem mxi {a b : B64} {e : Decidable (¬ a < b)} : (@ite B64 (¬ a < b) e a b) = bmax a b := by
  unfold bmax
  by_cases h : a < b
  · rw [if_neg (not_not_intro h), if_pos h]
  · rw [if_pos h, if_neg h]
theorem mni {a b : B64} {e : Decidable (¬ a < b)} : (@ite B64 (¬ a < b) e b a) = bmin a b := by
  unfold bmin
  by_cases h : a < b
  · rw [if_neg (not_not_intro h), if_pos h]
  · rw [if_pos h, if_neg h]
theorem T275 (hp : isNm σ p) (hq : isNm σ q) (hne : ¬ q = p) : MM 275 [mR (some p), mR (some q)] σ = some (none, wC (wC σ p (bothN (rC σ p) (rC σ q))) q (bothN (rC σ p) (rC σ q))) := by
  have p0 : gL σ p 0 = jV (rC σ p) := rfl
  have p1 : gL σ p 1 = jM (rC σ p) := rfl
  have p2 : gL σ p 2 = jA (rC σ p) := rfl
  have p3 : gL σ p 3 = jB (rC σ p) := rfl
  have p4 : gL σ p 4 = jC (rC σ p) := rfl
  have p5 : gL σ p 5 = jD (rC σ p) := rfl
  have q0 : gL σ q 0 = jV (rC σ q) := rfl
  have q1 : gL σ q 1 = jM (rC σ q) := rfl
  have q2 : gL σ q 2 = jA (rC σ q) := rfl
  have q3 : gL σ q 3 = jB (rC σ q) := rfl
  have q4 : gL σ q 4 = jC (rC σ q) := rfl
  have q5 : gL σ q 5 = jD (rC σ q) := rfl
  obtain ⟨x, hx⟩ : ∃ x, x = rC σ p := ⟨_, rfl⟩
  obtain ⟨y, hy⟩ : ∃ y, y = rC σ q := ⟨_, rfl⟩
  rw [← hx] at p0 p1 p2 p3 p4 p5
  rw [← hy] at q0 q1 q2 q3 q4 q5
  rw [← hx, ← hy]
  have ap := aoN hp
  have aq := aoN hq
  have s1 : MM 275 [mR (some p), mR (some q)] σ = (MM 66 [mR (some q), mR (some p)] (sL (sL (sL (sL (sL (sL σ p 0 (jV x ||| jV y)) p 1 (jM x &&& jM y)) p 2 (bmax (jA x) (jA y))) p 3 (bmin (jB x) (jB y))) p 4 (smax (jC x) (jC y))) p 5 (smin (jD x) (jD y)))).bind fun r => RR (lkB tb275) (B275_119, [some (mR (some p)), some (mR (some q))], r.1.toList ++ [], r.2) := by
    by_cases hA : jA x < jA y
    · rw [show bmax (jA x) (jA y) = jA y from if_pos hA]
      by_cases hB : jB x < jB y
      · rw [show bmin (jB x) (jB y) = jB x from if_pos hB]
        simp only [M275, e275_0, e275_38, e275_52, e275_67, e275_81, e275_96, e275_111, Option.getD_some, Option.bind_some, Option.toList_some, Option.toList_none, List.cons_append, List.nil_append, and_self, and_true, true_and, false_and, and_false, ite_self, not_true_eq_false, not_false_eq_true, reduceIte, Nat.reduceEqDiff, ab_I, ab_L, ab_R, ao_I, ao_L, ao_R, gL_sL, gI_sI, gR_sR, gI_sL, gI_sR, gL_sI, gL_sR, gR_sI, gR_sL, ap, aq, hne, p0, p1, p2, p3, p4, p5, q0, q1, q2, q3, q4, q5, T17, b2_0', eq_true hA, eq_true hB, T571, T572]
      · rw [show bmin (jB x) (jB y) = jB y from if_neg hB]
        simp only [M275, e275_0, e275_38, e275_52, e275_67, e275_81, e275_96, e275_111, Option.getD_some, Option.bind_some, Option.toList_some, Option.toList_none, List.cons_append, List.nil_append, and_self, and_true, true_and, false_and, and_false, ite_self, not_true_eq_false, not_false_eq_true, reduceIte, Nat.reduceEqDiff, ab_I, ab_L, ab_R, ao_I, ao_L, ao_R, gL_sL, gI_sI, gR_sR, gI_sL, gI_sR, gL_sI, gL_sR, gR_sI, gR_sL, ap, aq, hne, p0, p1, p2, p3, p4, p5, q0, q1, q2, q3, q4, q5, T17, b2_0', eq_true hA, eq_false hB, T571, T572]
    · rw [show bmax (jA x) (jA y) = jA x from if_neg hA]
      by_cases hB : jB x < jB y
      · rw [show bmin (jB x) (jB y) = jB x from if_pos hB]
        simp only [M275, e275_0, e275_38, e275_52, e275_67, e275_81, e275_96, e275_111, Option.getD_some, Option.bind_some, Option.toList_some, Option.toList_none, List.cons_append, List.nil_append, and_self, and_true, true_and, false_and, and_false, ite_self, not_true_eq_false, not_false_eq_true, reduceIte, Nat.reduceEqDiff, ab_I, ab_L, ab_R, ao_I, ao_L, ao_R, gL_sL, gI_sI, gR_sR, gI_sL, gI_sR, gL_sI, gL_sR, gR_sI, gR_sL, ap, aq, hne, p0, p1, p2, p3, p4, p5, q0, q1, q2, q3, q4, q5, T17, b2_0', eq_false hA, eq_true hB, T571, T572]
      · rw [show bmin (jB x) (jB y) = jB y from if_neg hB]
        simp only [M275, e275_0, e275_38, e275_52, e275_67, e275_81, e275_96, e275_111, Option.getD_some, Option.bind_some, Option.toList_some, Option.toList_none, List.cons_append, List.nil_append, and_self, and_true, true_and, false_and, and_false, ite_self, not_true_eq_false, not_false_eq_true, reduceIte, Nat.reduceEqDiff, ab_I, ab_L, ab_R, ao_I, ao_L, ao_R, gL_sL, gI_sI, gR_sR, gI_sL, gI_sR, gL_sI, gL_sR, gR_sI, gR_sL, ap, aq, hne, p0, p1, p2, p3, p4, p5, q0, q1, q2, q3, q4, q5, T17, b2_0', eq_false hA, eq_false hB, T571, T572]
  have t66 := T66 (σ := wC σ p (bothN x y)) (k := q) (j := p) hq hp (fun z => hne z.symm)
  rw [rC_wC, if_pos rfl] at t66
  rw [s1]
  rw [show sL (sL (sL (sL (sL (sL σ p 0 (jV x ||| jV y)) p 1 (jM x &&& jM y)) p 2 (bmax (jA x) (jA y))) p 3 (bmin (jB x) (jB y))) p 4 (smax (jC x) (jC y))) p 5 (smin (jD x) (jD y)) = wC σ p (bothN x y) from rfl, t66]
  simp only [e275_119, Option.getD_some, Option.bind_some, Option.toList_some, Option.toList_none, List.cons_append, List.nil_append, and_self, and_true, true_and, false_and, and_false, ite_self, not_true_eq_false, not_false_eq_true, reduceIte, Nat.reduceEqDiff, ab_I, ab_L, ab_R, ao_I, ao_L, ao_R, gL_sL, gI_sI, gR_sR, gI_sL, gI_sR, gL_sI, gL_sR, gR_sI, gR_sL]
theorem av_a {a : B64} {e : Decidable (¬ a = d)} : a + (@ite B64 (¬ a = d) e (BitVec.ofNat 64 0) (BitVec.ofNat 64 1)) = if a = d then a + 1#64 else a := by
  by_cases h : a = d
  · rw [if_neg (not_not_intro h), if_pos h]
  · rw [if_pos h, if_neg h]
    show a + 0#64 = a
    simp
theorem av_s {a : B64} {e : Decidable (¬ a = d)} : a - (@ite B64 (¬ a = d) e (BitVec.ofNat 64 0) (BitVec.ofNat 64 1)) = if a = d then a - 1#64 else a := by
  by_cases h : a = d
  · rw [if_neg (not_not_intro h), if_pos h]
  · rw [if_pos h, if_neg h]
    show a - 0#64 = a
    simp
theorem mrgL4 {T : Nat → List Ins} {P : Prop} {e : Decidable P} {B : List Ins} {L : List (Option MV)} {a b : B64} {s : List MV} {f : B64 → MS} : (@ite (Option Rs) P e (some (none, f a)) (some (none, f b))) = some (none, f (@ite _ P e a b)) := by
  split <;> rfl
theorem T277 (hp : isNm σ p) : MM 277 [mR (some p), mL d] σ = some (none, wC σ p (notN (rC σ p) d)) := by
  obtain ⟨x, hx⟩ : ∃ x, x = rC σ p := ⟨_, rfl⟩
  have e0 : σ = wC σ p x := by rw [hx, wC_eta]
  rw [← hx]
  have ap := aoN hp
  have key : ∀ z : N6, MM 277 [mR (some p), mL d] (wC σ p z) = some (none, wC σ p (notN z d)) := by
    rintro ⟨v, m, a, b, c, e⟩
    have aw : ∀ n : N6, ao (wC σ p n) 2 (some p) = True := fun n => aoNw hp
    have e5 : notN (v, m, a, b, c, e) d = (v, m, (if a = d then a + 1#64 else a), (if b = d then b - 1#64 else b), (if c = d then c + 1#64 else c), (if e = d then e - 1#64 else e)) := rfl
    have z1 : ∀ u : B64, u + BitVec.ofNat 64 0 = u := fun u => BitVec.add_zero u
    have z2 : ∀ u : B64, u - BitVec.ofNat 64 0 = u := fun u => BitVec.sub_zero u
    rw [e5]
    by_cases hA : a = d <;> by_cases hB : b = d <;> by_cases hC : c = d <;> by_cases hD : e = d <;> simp only [M277, e277_0, e277_19, e277_42, e277_65, Option.getD_some, Option.bind_some, Option.toList_some, Option.toList_none, List.cons_append, List.nil_append, and_self, and_true, true_and, false_and, and_false, ite_self, not_true_eq_false, not_false_eq_true, reduceIte, Nat.reduceEqDiff, ab_I, ab_L, ab_R, ao_I, ao_L, ao_R, gL_sL, gI_sI, gR_sR, gI_sL, gI_sR, gL_sI, gL_sR, gR_sI, gR_sL, aw, gC2, gC3, gC4, gC5, wC2, wC3, wC4, wC5, hA, hB, hC, hD, z1, z2]
  have key := key x
  rw [← e0] at key
  exact key
theorem T276 (hp : isNm σ p) (hq : isNm σ q) (hne : ¬ q = p) (hb : ¬ (isC (rC σ p) ∧ isC (rC σ q))) : okc (MM 276 [mR (some p), mR (some q)] σ) none (fun τ => (rC τ p = (unlN (rC σ p) (rC σ q)).1 ∧ rC τ q = (unlN (rC σ p) (rC σ q)).2) ∧ (∀ k s, gI τ k s = gI σ k s) ∧ (∀ k s, ¬ k = p → ¬ k = q → gL τ k s = gL σ k s) ∧ τ.2.2 = σ.2.2) := by
  have p0 : gL σ p 0 = jV (rC σ p) := rfl
  have q0 : gL σ q 0 = jV (rC σ q) := rfl
  have p1 : gL σ p 1 = jM (rC σ p) := rfl
  have q1 : gL σ q 1 = jM (rC σ q) := rfl
  have ap := aoN hp
  have aq := aoN hq
  have t69p := T69 hp
  have t69q := T69 hq
  rw [p1] at t69p
  rw [q1] at t69q
  have t77p := T277 (d := jV (rC σ q)) hp
  have t77q := T277 (d := jV (rC σ p)) hq
  unfold unlN
  by_cases cx : isC (rC σ p)
  · have cy : ¬ isC (rC σ q) := fun z => hb ⟨cx, z⟩
    rw [b2_yes cx] at t69p
    rw [b2_no cy] at t69q
    rw [if_neg (fun z => cy (z.mp cx)), if_pos cx]
    refine okc_o (τ := wC σ q (notN (rC σ q) (jV (rC σ p)))) ?_ ⟨⟨?_, ?_⟩, fun _ _ => rfl, fun k s a b => gC_ne b, rfl⟩
    · simp only [M276, e276_0, e276_4, e276_14, e276_25, e276_34, Option.getD_some, Option.bind_some, Option.toList_some, Option.toList_none, List.cons_append, List.nil_append, and_self, and_true, true_and, false_and, and_false, ite_self, not_true_eq_false, not_false_eq_true, reduceIte, Nat.reduceEqDiff, ab_I, ab_L, ab_R, ao_I, ao_L, ao_R, gL_sL, gI_sI, gR_sR, gI_sL, gI_sR, gL_sI, gL_sR, gR_sI, gR_sL, ap, aq, t69p, t69q, oneI, p0, t77q]
    · rw [rC_wC, if_neg (fun z => hne z.symm)]
    · rw [rC_wC, if_pos rfl]
  · rw [b2_no cx] at t69p
    by_cases cy : isC (rC σ q)
    · rw [b2_yes cy] at t69q
      rw [if_neg (fun z => cx (z.mpr cy)), if_neg cx]
      refine okc_o (τ := wC σ p (notN (rC σ p) (jV (rC σ q)))) ?_ ⟨⟨?_, ?_⟩, fun _ _ => rfl, fun k s a b => gC_ne a, rfl⟩
      · simp only [M276, e276_0, e276_4, e276_14, e276_25, e276_34, Option.getD_some, Option.bind_some, Option.toList_some, Option.toList_none, List.cons_append, List.nil_append, and_self, and_true, true_and, false_and, and_false, ite_self, not_true_eq_false, not_false_eq_true, reduceIte, Nat.reduceEqDiff, ab_I, ab_L, ab_R, ao_I, ao_L, ao_R, gL_sL, gI_sI, gR_sR, gI_sL, gI_sR, gL_sI, gL_sR, gR_sI, gR_sL, ap, aq, t69p, t69q, oneI, q0, t77p]
      · rw [rC_wC, if_pos rfl]
      · rw [rC_wC, if_neg hne]
    · rw [b2_no cy] at t69q
      rw [if_pos ⟨fun z => absurd z cx, fun z => absurd z cy⟩]
      refine okc_o (τ := σ) ?_ ⟨⟨rfl, rfl⟩, fun _ _ => rfl, fun _ _ _ _ => rfl, rfl⟩
      simp only [M276, e276_0, e276_4, e276_14, e276_25, e276_34, Option.getD_some, Option.bind_some, Option.toList_some, Option.toList_none, List.cons_append, List.nil_append, and_self, and_true, true_and, false_and, and_false, ite_self, not_true_eq_false, not_false_eq_true, reduceIte, Nat.reduceEqDiff, ab_I, ab_L, ab_R, ao_I, ao_L, ao_R, gL_sL, gI_sI, gR_sR, gI_sL, gI_sR, gL_sI, gL_sR, gR_sI, gR_sL, ap, aq, t69p, t69q]
theorem T279u {m : Int} (hp : isNm σ p) (hq : isNm σ q) (hne : ¬ q = p) : MM 279 [mR (some p), mR (some q), mI 0, mI m] σ = some (none, sL (sL σ p 2 (bmax (jA (rC σ p)) (jA (rC σ q) + iL m))) q 3 (bmin (jB (rC σ q)) (jB (rC σ p) - iL m))) := by
  have p2 : gL σ p 2 = jA (rC σ p) := rfl
  have p3 : gL σ p 3 = jB (rC σ p) := rfl
  have q2 : gL σ q 2 = jA (rC σ q) := rfl
  have q3 : gL σ q 3 = jB (rC σ q) := rfl
  generalize rC σ p = x at *
  generalize rC σ q = y at *
  have ap := aoN hp
  have aq := aoN hq
  by_cases hA : jA x < jA y + iL m
  · rw [show bmax (jA x) (jA y + iL m) = jA y + iL m from if_pos hA]
    by_cases hB : jB y < jB x - iL m
    · rw [show bmin (jB y) (jB x - iL m) = jB y from if_pos hB]
      simp only [M279, e279_0, e279_79, e279_91, e279_104, e279_116, Option.getD_some, Option.bind_some, Option.toList_some, Option.toList_none, List.cons_append, List.nil_append, and_self, and_true, true_and, false_and, and_false, ite_self, not_true_eq_false, not_false_eq_true, reduceIte, Nat.reduceEqDiff, ab_I, ab_L, ab_R, ao_I, ao_L, ao_R, gL_sL, gI_sI, gR_sR, gI_sL, gI_sR, gL_sI, gL_sR, gR_sI, gR_sL, ap, aq, hne, p2, p3, q2, q3, T17, b2_0', eq_true hA, eq_true hB]
    · rw [show bmin (jB y) (jB x - iL m) = jB x - iL m from if_neg hB]
      simp only [M279, e279_0, e279_79, e279_91, e279_104, e279_116, Option.getD_some, Option.bind_some, Option.toList_some, Option.toList_none, List.cons_append, List.nil_append, and_self, and_true, true_and, false_and, and_false, ite_self, not_true_eq_false, not_false_eq_true, reduceIte, Nat.reduceEqDiff, ab_I, ab_L, ab_R, ao_I, ao_L, ao_R, gL_sL, gI_sI, gR_sR, gI_sL, gI_sR, gL_sI, gL_sR, gR_sI, gR_sL, ap, aq, hne, p2, p3, q2, q3, T17, b2_0', eq_true hA, eq_false hB]
  · rw [show bmax (jA x) (jA y + iL m) = jA x from if_neg hA]
    by_cases hB : jB y < jB x - iL m
    · rw [show bmin (jB y) (jB x - iL m) = jB y from if_pos hB]
      simp only [M279, e279_0, e279_79, e279_91, e279_104, e279_116, Option.getD_some, Option.bind_some, Option.toList_some, Option.toList_none, List.cons_append, List.nil_append, and_self, and_true, true_and, false_and, and_false, ite_self, not_true_eq_false, not_false_eq_true, reduceIte, Nat.reduceEqDiff, ab_I, ab_L, ab_R, ao_I, ao_L, ao_R, gL_sL, gI_sI, gR_sR, gI_sL, gI_sR, gL_sI, gL_sR, gR_sI, gR_sL, ap, aq, hne, p2, p3, q2, q3, T17, b2_0', eq_false hA, eq_true hB]
    · rw [show bmin (jB y) (jB x - iL m) = jB x - iL m from if_neg hB]
      simp only [M279, e279_0, e279_79, e279_91, e279_104, e279_116, Option.getD_some, Option.bind_some, Option.toList_some, Option.toList_none, List.cons_append, List.nil_append, and_self, and_true, true_and, false_and, and_false, ite_self, not_true_eq_false, not_false_eq_true, reduceIte, Nat.reduceEqDiff, ab_I, ab_L, ab_R, ao_I, ao_L, ao_R, gL_sL, gI_sI, gR_sR, gI_sL, gI_sR, gL_sI, gL_sR, gR_sI, gR_sL, ap, aq, hne, p2, p3, q2, q3, T17, b2_0', eq_false hA, eq_false hB]
theorem T279s {m : Int} (hp : isNm σ p) (hq : isNm σ q) (hne : ¬ q = p) : MM 279 [mR (some p), mR (some q), mI 1, mI m] σ = some (none, sL (sL σ p 4 (smax (jC (rC σ p)) (jC (rC σ q) + iL m))) q 5 (smin (jD (rC σ q)) (jD (rC σ p) - iL m))) := by
  have p2 : gL σ p 4 = jC (rC σ p) := rfl
  have p3 : gL σ p 5 = jD (rC σ p) := rfl
  have q2 : gL σ q 4 = jC (rC σ q) := rfl
  have q3 : gL σ q 5 = jD (rC σ q) := rfl
  generalize rC σ p = x at *
  generalize rC σ q = y at *
  have ap := aoN hp
  have aq := aoN hq
  simp only [M279, e279_0, e279_32, e279_45, Option.getD_some, Option.bind_some, Option.toList_some, Option.toList_none, List.cons_append, List.nil_append, and_self, and_true, true_and, false_and, and_false, ite_self, not_true_eq_false, not_false_eq_true, reduceIte, Nat.reduceEqDiff, ab_I, ab_L, ab_R, ao_I, ao_L, ao_R, gL_sL, gI_sI, gR_sR, gI_sL, gI_sR, gL_sI, gL_sR, gR_sI, gR_sL, ap, aq, hne, oneI, p2, p3, q2, q3, T571, T572]
/-- the numbers on the two ways, not yet tidied -/
def nrP (τ : MS) (c : Int) (x y : N6) : Prop := (rC τ 47 = (narN c true x y).1 ∧ rC τ 48 = (narN c true x y).2) ∧ rC τ 49 = (if c = 64 ∧ isC y then cl64 x y else (narN c false x y).1) ∧ rC τ 50 = (narN c false x y).2
theorem nrP_n (h : ¬ c = 64) (a : rC τ 47 = (narN c true x y).1) (b : rC τ 48 = (narN c true x y).2) (e : rC τ 49 = (narN c false x y).1) (f : rC τ 50 = (narN c false x y).2) : nrP τ c x y := ⟨⟨a, b⟩, by rw [if_neg (fun z => h z.1)]; exact e, f⟩
theorem T274 (hc : isCmp c) (ex : rC σ 42 = x) (ey : rC σ 43 = y) (hb : c = 16 ∨ c = 80 → ¬ (isC x ∧ isC y)) : okc (MM 274 [mR (some 40), mI c, mI (b2 (isSgn c))] σ) none (fun τ => nrP τ c x y ∧ nfq τ σ) := by
  have t66a := T66 (σ := σ) (k := 47) (j := 42) (kc_47 _) (kc_42 _) (by decide)
  rw [ex] at t66a
  have t66b := T66 (σ := wC σ 47 x) (k := 48) (j := 43) (kc_48 _) (kc_43 _) (by decide)
  rw [rC_wC, if_neg (by decide), ey] at t66b
  have t66c := T66 (σ := wC (wC σ 47 x) 48 y) (k := 49) (j := 42) (kc_49 _) (kc_42 _) (by decide)
  rw [rC_wC, if_neg (by decide), rC_wC, if_neg (by decide), ex] at t66c
  have t66d := T66 (σ := wC (wC (wC σ 47 x) 48 y) 49 x) (k := 50) (j := 43) (kc_50 _) (kc_43 _) (by decide)
  rw [rC_wC, if_neg (by decide), rC_wC, if_neg (by decide), rC_wC, if_neg (by decide), ey] at t66d
  have s44 : MM 274 [mR (some 40), mI c, mI (b2 (isSgn c))] σ = RR (lkB tb274) (B274_44, [some (mR (some 40)), some (mI c), some (mI (b2 (isSgn c)))], [], wC (wC (wC (wC σ 47 x) 48 y) 49 x) 50 y) := by
    simp only [M274, e274_0, e274_11, e274_22, e274_33, Option.getD_some, Option.bind_some, Option.toList_some, Option.toList_none, List.cons_append, List.nil_append, and_self, and_true, true_and, false_and, and_false, ite_self, not_true_eq_false, not_false_eq_true, reduceIte, Nat.reduceEqDiff, ab_I, ab_L, ab_R, ao_I, ao_L, ao_R, gL_sL, gI_sI, gR_sR, gI_sL, gI_sR, gL_sI, gL_sR, gR_sI, gR_sL, t66a, t66b, t66c, t66d]
  rw [s44]
  have q0 : nfq (wC (wC (wC (wC σ 47 x) 48 y) 49 x) 50 y) σ := nfq_t (nfq_w (by omega)) (nfq_t (nfq_w (by omega)) (nfq_t (nfq_w (by omega)) (nfq_w (by omega))))
  have r42 : rC (wC (wC (wC (wC σ 47 x) 48 y) 49 x) 50 y) 43 = y := by rw [rC_wC, if_neg (by decide), rC_wC, if_neg (by decide), rC_wC, if_neg (by decide), rC_wC, if_neg (by decide), ey]
  have r47 : rC (wC (wC (wC (wC σ 47 x) 48 y) 49 x) 50 y) 47 = x := by rw [rC_wC, if_neg (by decide), rC_wC, if_neg (by decide), rC_wC, if_neg (by decide), rC_wC, if_pos rfl]
  have r48 : rC (wC (wC (wC (wC σ 47 x) 48 y) 49 x) 50 y) 48 = y := by rw [rC_wC, if_neg (by decide), rC_wC, if_neg (by decide), rC_wC, if_pos rfl]
  have r49 : rC (wC (wC (wC (wC σ 47 x) 48 y) 49 x) 50 y) 49 = x := by rw [rC_wC, if_neg (by decide), rC_wC, if_pos rfl]
  have r50 : rC (wC (wC (wC (wC σ 47 x) 48 y) 49 x) 50 y) 50 = y := by rw [rC_wC, if_pos rfl]
  generalize wC (wC (wC (wC σ 47 x) 48 y) 49 x) 50 y = ρ at *
  clear t66a t66b t66c t66d s44
  have one : iL 1 = 1#64 := rfl
  have zer : iL 0 = 0#64 := rfl
  -- two orders, one for each way
  have ordu : ∀ (a b e f : Nat) (m m' : Int), ((a = 47 ∧ b = 48) ∨ (a = 48 ∧ b = 47)) → ((e = 50 ∧ f = 49) ∨ (e = 49 ∧ f = 50)) → ∃ τ1 τ2, MM 279 [mR (some a), mR (some b), mI 0, mI m] ρ = some (none, τ1) ∧ MM 279 [mR (some e), mR (some f), mI 0, mI m'] τ1 = some (none, τ2) ∧ nfq τ2 σ
      ∧ rC τ2 a = setN (rC ρ a) 2 (bmax (jA (rC ρ a)) (jA (rC ρ b) + iL m)) ∧ rC τ2 b = setN (rC ρ b) 3 (bmin (jB (rC ρ b)) (jB (rC ρ a) - iL m)) ∧ rC τ2 e = setN (rC ρ e) 2 (bmax (jA (rC ρ e)) (jA (rC ρ f) + iL m')) ∧ rC τ2 f = setN (rC ρ f) 3 (bmin (jB (rC ρ f)) (jB (rC ρ e) - iL m')) := fun a b e f m m' h1 h2 => by
    have na : isNm ρ a := by rcases h1 with ⟨h, -⟩ | ⟨h, -⟩ <;> subst h <;> rfl
    have nb : isNm ρ b := by rcases h1 with ⟨-, h⟩ | ⟨-, h⟩ <;> subst h <;> rfl
    have t1 := T279u (m := m) na nb (by omega)
    obtain ⟨τ1, hτ1⟩ : ∃ τ1, τ1 = sL (sL ρ a 2 (bmax (jA (rC ρ a)) (jA (rC ρ b) + iL m))) b 3 (bmin (jB (rC ρ b)) (jB (rC ρ a) - iL m)) := ⟨_, rfl⟩
    rw [← hτ1] at t1
    have ne : isNm τ1 e := by rcases h2 with ⟨h, -⟩ | ⟨h, -⟩ <;> subst h <;> rfl
    have nf : isNm τ1 f := by rcases h2 with ⟨-, h⟩ | ⟨-, h⟩ <;> subst h <;> rfl
    have t2 := T279u (m := m') ne nf (by omega)
    have re : rC τ1 e = rC ρ e := by rw [hτ1, rC_sL, if_neg (by omega), rC_sL, if_neg (by omega)]
    have rf : rC τ1 f = rC ρ f := by rw [hτ1, rC_sL, if_neg (by omega), rC_sL, if_neg (by omega)]
    rw [re, rf] at t2
    refine ⟨τ1, _, t1, t2, nfq_t (nfq_l (by omega)) (nfq_t (nfq_l (by omega)) (nfq_t (by rw [hτ1]; exact nfq_t (nfq_l (by omega)) (nfq_l (by omega))) q0)), ?_, ?_, ?_, ?_⟩
    · rw [rC_sL, if_neg (by omega), rC_sL, if_neg (by omega), hτ1, rC_sL, if_neg (by omega), rC_sL, if_pos rfl]
    · rw [rC_sL, if_neg (by omega), rC_sL, if_neg (by omega), hτ1, rC_sL, if_pos rfl, rC_sL, if_neg (by omega)]
    · rw [rC_sL, if_neg (by omega), rC_sL, if_pos rfl, re]
    · rw [rC_sL, if_pos rfl, rC_sL, if_neg (by omega), rf]
  have ords : ∀ (a b e f : Nat) (m m' : Int), ((a = 47 ∧ b = 48) ∨ (a = 48 ∧ b = 47)) → ((e = 50 ∧ f = 49) ∨ (e = 49 ∧ f = 50)) → ∃ τ1 τ2, MM 279 [mR (some a), mR (some b), mI 1, mI m] ρ = some (none, τ1) ∧ MM 279 [mR (some e), mR (some f), mI 1, mI m'] τ1 = some (none, τ2) ∧ nfq τ2 σ
      ∧ rC τ2 a = setN (rC ρ a) 4 (smax (jC (rC ρ a)) (jC (rC ρ b) + iL m)) ∧ rC τ2 b = setN (rC ρ b) 5 (smin (jD (rC ρ b)) (jD (rC ρ a) - iL m)) ∧ rC τ2 e = setN (rC ρ e) 4 (smax (jC (rC ρ e)) (jC (rC ρ f) + iL m')) ∧ rC τ2 f = setN (rC ρ f) 5 (smin (jD (rC ρ f)) (jD (rC ρ e) - iL m')) := fun a b e f m m' h1 h2 => by
    have na : isNm ρ a := by rcases h1 with ⟨h, -⟩ | ⟨h, -⟩ <;> subst h <;> rfl
    have nb : isNm ρ b := by rcases h1 with ⟨-, h⟩ | ⟨-, h⟩ <;> subst h <;> rfl
    have t1 := T279s (m := m) na nb (by omega)
    obtain ⟨τ1, hτ1⟩ : ∃ τ1, τ1 = sL (sL ρ a 4 (smax (jC (rC ρ a)) (jC (rC ρ b) + iL m))) b 5 (smin (jD (rC ρ b)) (jD (rC ρ a) - iL m)) := ⟨_, rfl⟩
    rw [← hτ1] at t1
    have ne : isNm τ1 e := by rcases h2 with ⟨h, -⟩ | ⟨h, -⟩ <;> subst h <;> rfl
    have nf : isNm τ1 f := by rcases h2 with ⟨-, h⟩ | ⟨-, h⟩ <;> subst h <;> rfl
    have t2 := T279s (m := m') ne nf (by omega)
    have re : rC τ1 e = rC ρ e := by rw [hτ1, rC_sL, if_neg (by omega), rC_sL, if_neg (by omega)]
    have rf : rC τ1 f = rC ρ f := by rw [hτ1, rC_sL, if_neg (by omega), rC_sL, if_neg (by omega)]
    rw [re, rf] at t2
    refine ⟨τ1, _, t1, t2, nfq_t (nfq_l (by omega)) (nfq_t (nfq_l (by omega)) (nfq_t (by rw [hτ1]; exact nfq_t (nfq_l (by omega)) (nfq_l (by omega))) q0)), ?_, ?_, ?_, ?_⟩
    · rw [rC_sL, if_neg (by omega), rC_sL, if_neg (by omega), hτ1, rC_sL, if_neg (by omega), rC_sL, if_pos rfl]
    · rw [rC_sL, if_neg (by omega), rC_sL, if_neg (by omega), hτ1, rC_sL, if_pos rfl, rC_sL, if_neg (by omega)]
    · rw [rC_sL, if_neg (by omega), rC_sL, if_pos rfl, re]
    · rw [rC_sL, if_pos rfl, rC_sL, if_neg (by omega), rf]
  rcases hc with rfl | rfl | rfl | rfl | rfl | rfl | rfl | rfl | rfl | rfl | rfl
  · -- 16
    have hb := hb (Or.inl rfl)
    have t75 := T275 (σ := ρ) (p := 47) (q := 48) (kc_47 _) (kc_48 _) (by decide)
    rw [r47, r48] at t75
    obtain ⟨ρ1, hρ1⟩ : ∃ ρ1, ρ1 = wC (wC ρ 47 (bothN x y)) 48 (bothN x y) := ⟨_, rfl⟩
    rw [← hρ1] at t75
    have e49 : rC ρ1 49 = x := by rw [hρ1, rC_wC, if_neg (by decide), rC_wC, if_neg (by decide), r49]
    have e50 : rC ρ1 50 = y := by rw [hρ1, rC_wC, if_neg (by decide), rC_wC, if_neg (by decide), r50]
    have e47 : rC ρ1 47 = bothN x y := by rw [hρ1, rC_wC, if_neg (by decide), rC_wC, if_pos rfl]
    have e48 : rC ρ1 48 = bothN x y := by rw [hρ1, rC_wC, if_pos rfl]
    have qq : nfq ρ1 σ := by rw [hρ1]; exact nfq_t (nfq_w (by omega)) (nfq_t (nfq_w (by omega)) q0)
    obtain ⟨τ, t76, ⟨a1, a2⟩, a3, a4, a5⟩ := T276 (σ := ρ1) (p := 49) (q := 50) (kc_49 _) (kc_50 _) (by decide) (by rw [e49, e50]; exact hb)
    rw [e49, e50] at a1 a2
    have kp : ∀ i, ¬ i = 49 → ¬ i = 50 → rC τ i = rC ρ1 i := fun i h1 h2 => by
      unfold rC
      rw [a4 i _ h1 h2, a4 i _ h1 h2, a4 i _ h1 h2, a4 i _ h1 h2, a4 i _ h1 h2, a4 i _ h1 h2]
    refine okc_o (τ := τ) ?_ ⟨nrP_n (by decide) ?_ ?_ a1 a2, nfq_t ⟨a3, fun k s h => a4 k s (by omega) (by omega), a5⟩ qq⟩
    · simp only [e274_44, e274_139, e274_150, e274_298, Option.getD_some, Option.bind_some, Option.toList_some, Option.toList_none, List.cons_append, List.nil_append, and_self, and_true, true_and, false_and, and_false, ite_self, not_true_eq_false, not_false_eq_true, reduceIte, Nat.reduceEqDiff, ab_I, ab_L, ab_R, ao_I, ao_L, ao_R, gL_sL, gI_sI, gR_sR, gI_sL, gI_sR, gL_sI, gL_sR, gR_sI, gR_sL, t75, t76]
    · rw [kp 47 (by decide) (by decide), e47]; rfl
    · rw [kp 48 (by decide) (by decide), e48]; rfl
  · obtain ⟨τ1, τ2, t1, t2, qq, a1, a2, a3, a4⟩ := ordu 47 48 50 49 1 0 (Or.inl ⟨rfl, rfl⟩) (Or.inl ⟨rfl, rfl⟩)
    rw [r47, r48] at a1 a2
    rw [r49, r50] at a3 a4
    have s0 : b2 (isSgn 32) = 0 := b2_no (by decide)
    refine okc_o (τ := τ2) ?_ ⟨nrP_n (by decide) a1 a2 a4 a3, qq⟩
    simp only [e274_44, e274_198, e274_211, e274_298, Option.getD_some, Option.bind_some, Option.toList_some, Option.toList_none, List.cons_append, List.nil_append, and_self, and_true, true_and, false_and, and_false, ite_self, not_true_eq_false, not_false_eq_true, reduceIte, Nat.reduceEqDiff, ab_I, ab_L, ab_R, ao_I, ao_L, ao_R, gL_sL, gI_sI, gR_sR, gI_sL, gI_sR, gL_sI, gL_sR, gR_sI, gR_sL, Int.reduceEq, s0, t1, t2]
  · obtain ⟨τ1, τ2, t1, t2, qq, a1, a2, a3, a4⟩ := ordu 47 48 50 49 0 1 (Or.inl ⟨rfl, rfl⟩) (Or.inl ⟨rfl, rfl⟩)
    rw [r47, r48] at a1 a2
    rw [r49, r50] at a3 a4
    have s0 : b2 (isSgn 48) = 0 := b2_no (by decide)
    refine okc_o (τ := τ2) ?_ ⟨nrP_n (by decide) a1 a2 a4 a3, qq⟩
    simp only [e274_44, e274_227, e274_240, e274_298, Option.getD_some, Option.bind_some, Option.toList_some, Option.toList_none, List.cons_append, List.nil_append, and_self, and_true, true_and, false_and, and_false, ite_self, not_true_eq_false, not_false_eq_true, reduceIte, Nat.reduceEqDiff, ab_I, ab_L, ab_R, ao_I, ao_L, ao_R, gL_sL, gI_sI, gR_sR, gI_sL, gI_sR, gL_sI, gL_sR, gR_sI, gR_sL, Int.reduceEq, s0, t1, t2]
  · -- 64
    have t69 := T69 (σ := ρ) (k := 43) (kc_43 _)
    have g1 : gL ρ 43 1 = jM y := by rw [← r42]; rfl
    have g0 : gL ρ 43 0 = jV y := by rw [← r42]; rfl
    rw [g1] at t69
    by_cases cy : isC y
    · rw [b2_yes cy] at t69
      have p7 : gL ρ 47 0 = jV x := by rw [← r47]; rfl
      have p71 : gL ρ 47 1 = jM x := by rw [← r47]; rfl
      have p9 : gL ρ 49 0 = jV x := by rw [← r49]; rfl
      have p91 : gL ρ 49 1 = jM x := by rw [← r49]; rfl
      by_cases b1 : bcF (jV y) = 1
      · refine okc_o (τ := sL (sL (sL (sL ρ 47 0 (jV x ||| jV y)) 47 1 (jM x &&& ~~~ jV y)) 49 0 (jV x &&& ~~~ jV y)) 49 1 (jM x &&& ~~~ jV y)) ?_ ⟨⟨⟨?_, ?_⟩, ?_, ?_⟩, nfq_t (nfq_l (by omega)) (nfq_t (nfq_l (by omega)) (nfq_t (nfq_l (by omega)) (nfq_t (nfq_l (by omega)) q0)))⟩
        · simp only [e274_44, e274_182, e274_298, M278, e278_0, e278_7, e278_21, e278_67, Option.getD_some, Option.bind_some, Option.toList_some, Option.toList_none, List.cons_append, List.nil_append, and_self, and_true, true_and, false_and, and_false, ite_self, not_true_eq_false, not_false_eq_true, reduceIte, Nat.reduceEqDiff, ab_I, ab_L, ab_R, ao_I, ao_L, ao_R, gL_sL, gI_sI, gR_sR, gI_sL, gI_sR, gL_sI, gL_sR, gR_sI, gR_sL, Int.reduceEq, t69, oneI, g0, T569, b1, p7, p71, p9, p91, iL_m1, xor_all]
        · rw [rC_sL, if_neg (by decide), rC_sL, if_neg (by decide), rC_sL, if_pos rfl, rC_sL, if_pos rfl, r47]
          show _ = (if isC y ∧ true = true ∧ jV y &&& (jV y - 1#64) = 0#64 then ((jV x ||| jV y, jM x &&& ~~~ jV y, jA x, jB x, jC x, jD x), y) else if isC y ∧ true = false then ((jV x, jM x &&& ~~~ jV y, jA x, jB x, jC x, jD x), y) else (x, y)).1
          rw [if_pos ⟨cy, rfl, bc_one b1⟩]
          rfl
        · rw [rC_sL, if_neg (by decide), rC_sL, if_neg (by decide), rC_sL, if_neg (by decide), rC_sL, if_neg (by decide), r48]
          show _ = (if isC y ∧ true = true ∧ jV y &&& (jV y - 1#64) = 0#64 then ((jV x ||| jV y, jM x &&& ~~~ jV y, jA x, jB x, jC x, jD x), y) else if isC y ∧ true = false then ((jV x, jM x &&& ~~~ jV y, jA x, jB x, jC x, jD x), y) else (x, y)).2
          rw [if_pos ⟨cy, rfl, bc_one b1⟩]
        · rw [rC_sL, if_pos rfl, rC_sL, if_pos rfl, rC_sL, if_neg (by decide), rC_sL, if_neg (by decide), r49, if_pos ⟨rfl, cy⟩]
          rfl
        · rw [rC_sL, if_neg (by decide), rC_sL, if_neg (by decide), rC_sL, if_neg (by decide), rC_sL, if_neg (by decide), r50]
          show _ = (if isC y ∧ false = true ∧ jV y &&& (jV y - 1#64) = 0#64 then ((jV x ||| jV y, jM x &&& ~~~ jV y, jA x, jB x, jC x, jD x), y) else if isC y ∧ false = false then ((jV x, jM x &&& ~~~ jV y, jA x, jB x, jC x, jD x), y) else (x, y)).2
          rw [if_neg (fun z => by cases z.2.1), if_pos ⟨cy, rfl⟩]
      · have y1 : (narN 64 true x y) = (x, y) ∨ (narN 64 true x y) = (x, y) := by
          left
          show (if isC y ∧ true = true ∧ jV y &&& (jV y - 1#64) = 0#64 then ((jV x ||| jV y, jM x &&& ~~~ jV y, jA x, jB x, jC x, jD x), y) else if isC y ∧ true = false then ((jV x, jM x &&& ~~~ jV y, jA x, jB x, jC x, jD x), y) else (x, y)) = (x, y)
          by_cases pz : jV y &&& (jV y - 1#64) = 0#64
          · have y0 : jV y = 0#64 := Classical.byContradiction fun z => b1 (bc_pow pz z)
            rw [if_pos ⟨cy, rfl, pz⟩, y0]
            have o1 : jV x ||| 0#64 = jV x := by simp
            have o2 : jM x &&& ~~~ 0#64 = jM x := by rw [show ~~~ (0#64) = BitVec.allOnes 64 by decide, BitVec.and_allOnes]
            rw [o1, o2]
          · rw [if_neg (fun z => pz z.2.2), if_neg (fun z => by cases z.2)]
        have y1 := y1.elim id id
        refine okc_o (τ := sL (sL ρ 49 0 (jV x &&& ~~~ jV y)) 49 1 (jM x &&& ~~~ jV y)) ?_ ⟨⟨⟨?_, ?_⟩, ?_, ?_⟩, nfq_t (nfq_l (by omega)) (nfq_t (nfq_l (by omega)) q0)⟩
        · simp only [e274_44, e274_182, e274_298, M278, e278_0, e278_7, e278_21, e278_67, Option.getD_some, Option.bind_some, Option.toList_some, Option.toList_none, List.cons_append, List.nil_append, and_self, and_true, true_and, false_and, and_false, ite_self, not_true_eq_false, not_false_eq_true, reduceIte, Nat.reduceEqDiff, ab_I, ab_L, ab_R, ao_I, ao_L, ao_R, gL_sL, gI_sI, gR_sR, gI_sL, gI_sR, gL_sI, gL_sR, gR_sI, gR_sL, Int.reduceEq, t69, oneI, g0, T569, b1, p7, p71, p9, p91, iL_m1, xor_all]
        · rw [rC_sL, if_neg (by decide), rC_sL, if_neg (by decide), r47, y1]
        · rw [rC_sL, if_neg (by decide), rC_sL, if_neg (by decide), r48, y1]
        · rw [rC_sL, if_pos rfl, rC_sL, if_pos rfl, r49, if_pos ⟨rfl, cy⟩]
          rfl
        · rw [rC_sL, if_neg (by decide), rC_sL, if_neg (by decide), r50]
          show _ = (if isC y ∧ false = true ∧ jV y &&& (jV y - 1#64) = 0#64 then ((jV x ||| jV y, jM x &&& ~~~ jV y, jA x, jB x, jC x, jD x), y) else if isC y ∧ false = false then ((jV x, jM x &&& ~~~ jV y, jA x, jB x, jC x, jD x), y) else (x, y)).2
          rw [if_neg (fun z => by cases z.2.1), if_pos ⟨cy, rfl⟩]
    · rw [b2_no cy] at t69
      have yn : ∀ is : Bool, narN 64 is x y = (x, y) := fun is => by
        show (if isC y ∧ is = true ∧ jV y &&& (jV y - 1#64) = 0#64 then ((jV x ||| jV y, jM x &&& ~~~ jV y, jA x, jB x, jC x, jD x), y) else if isC y ∧ is = false then ((jV x, jM x &&& ~~~ jV y, jA x, jB x, jC x, jD x), y) else (x, y)) = (x, y)
        rw [if_neg (fun z => cy z.1), if_neg (fun z => cy z.1)]
      refine okc_o (τ := ρ) ?_ ⟨⟨⟨?_, ?_⟩, ?_, ?_⟩, q0⟩
      · simp only [e274_44, e274_182, e274_298, M278, e278_0, e278_7, Option.getD_some, Option.bind_some, Option.toList_some, Option.toList_none, List.cons_append, List.nil_append, and_self, and_true, true_and, false_and, and_false, ite_self, not_true_eq_false, not_false_eq_true, reduceIte, Nat.reduceEqDiff, ab_I, ab_L, ab_R, ao_I, ao_L, ao_R, gL_sL, gI_sI, gR_sR, gI_sL, gI_sR, gL_sI, gL_sR, gR_sI, gR_sL, Int.reduceEq, t69]
      · rw [yn, r47]
      · rw [yn, r48]
      · rw [if_neg (fun z => cy z.2), yn, r49]
      · rw [yn, r50]
  · -- 80
    have hb := hb (Or.inr rfl)
    obtain ⟨ρ1, t76, ⟨a1, a2⟩, a3, a4, a5⟩ := T276 (σ := ρ) (p := 47) (q := 48) (kc_47 _) (kc_48 _) (by decide) (by rw [r47, r48]; exact hb)
    rw [r47, r48] at a1 a2
    have kp : ∀ i, ¬ i = 47 → ¬ i = 48 → rC ρ1 i = rC ρ i := fun i h1 h2 => by
      unfold rC
      rw [a4 i _ h1 h2, a4 i _ h1 h2, a4 i _ h1 h2, a4 i _ h1 h2, a4 i _ h1 h2, a4 i _ h1 h2]
    have e49 : rC ρ1 49 = x := by rw [kp 49 (by decide) (by decide), r49]
    have e50 : rC ρ1 50 = y := by rw [kp 50 (by decide) (by decide), r50]
    have k49 : isNm ρ1 49 := rfl
    have k50 : isNm ρ1 50 := rfl
    have t75 := T275 (σ := ρ1) (p := 49) (q := 50) k49 k50 (by decide)
    rw [e49, e50] at t75
    refine okc_o (τ := wC (wC ρ1 49 (bothN x y)) 50 (bothN x y)) ?_ ⟨nrP_n (by decide) ?_ ?_ ?_ ?_, nfq_t (nfq_w (by omega)) (nfq_t (nfq_w (by omega)) (nfq_t ⟨a3, fun k s h => a4 k s (by omega) (by omega), a5⟩ q0))⟩
    · simp only [e274_44, e274_164, e274_175, e274_298, Option.getD_some, Option.bind_some, Option.toList_some, Option.toList_none, List.cons_append, List.nil_append, and_self, and_true, true_and, false_and, and_false, ite_self, not_true_eq_false, not_false_eq_true, reduceIte, Nat.reduceEqDiff, ab_I, ab_L, ab_R, ao_I, ao_L, ao_R, gL_sL, gI_sI, gR_sR, gI_sL, gI_sR, gL_sI, gL_sR, gR_sI, gR_sL, Int.reduceEq, t75, t76]
    · rw [rC_wC, if_neg (by decide), rC_wC, if_neg (by decide), a1]; rfl
    · rw [rC_wC, if_neg (by decide), rC_wC, if_neg (by decide), a2]; rfl
    · rw [rC_wC, if_neg (by decide), rC_wC, if_pos rfl]; rfl
    · rw [rC_wC, if_pos rfl]; rfl
  · obtain ⟨τ1, τ2, t1, t2, qq, a1, a2, a3, a4⟩ := ords 47 48 50 49 1 0 (Or.inl ⟨rfl, rfl⟩) (Or.inl ⟨rfl, rfl⟩)
    rw [r47, r48] at a1 a2
    rw [r49, r50] at a3 a4
    have s0 : b2 (isSgn 96) = 1 := b2_yes (by decide)
    refine okc_o (τ := τ2) ?_ ⟨nrP_n (by decide) a1 a2 a4 a3, qq⟩
    simp only [e274_44, e274_198, e274_211, e274_298, Option.getD_some, Option.bind_some, Option.toList_some, Option.toList_none, List.cons_append, List.nil_append, and_self, and_true, true_and, false_and, and_false, ite_self, not_true_eq_false, not_false_eq_true, reduceIte, Nat.reduceEqDiff, ab_I, ab_L, ab_R, ao_I, ao_L, ao_R, gL_sL, gI_sI, gR_sR, gI_sL, gI_sR, gL_sI, gL_sR, gR_sI, gR_sL, Int.reduceEq, s0, t1, t2]
  · obtain ⟨τ1, τ2, t1, t2, qq, a1, a2, a3, a4⟩ := ords 47 48 50 49 0 1 (Or.inl ⟨rfl, rfl⟩) (Or.inl ⟨rfl, rfl⟩)
    rw [r47, r48] at a1 a2
    rw [r49, r50] at a3 a4
    have s0 : b2 (isSgn 112) = 1 := b2_yes (by decide)
    refine okc_o (τ := τ2) ?_ ⟨nrP_n (by decide) a1 a2 a4 a3, qq⟩
    simp only [e274_44, e274_227, e274_240, e274_298, Option.getD_some, Option.bind_some, Option.toList_some, Option.toList_none, List.cons_append, List.nil_append, and_self, and_true, true_and, false_and, and_false, ite_self, not_true_eq_false, not_false_eq_true, reduceIte, Nat.reduceEqDiff, ab_I, ab_L, ab_R, ao_I, ao_L, ao_R, gL_sL, gI_sI, gR_sR, gI_sL, gI_sR, gL_sI, gL_sR, gR_sI, gR_sL, Int.reduceEq, s0, t1, t2]
  · obtain ⟨τ1, τ2, t1, t2, qq, a1, a2, a3, a4⟩ := ordu 48 47 49 50 1 0 (Or.inr ⟨rfl, rfl⟩) (Or.inr ⟨rfl, rfl⟩)
    rw [r47, r48] at a1 a2
    rw [r49, r50] at a3 a4
    have s0 : b2 (isSgn 160) = 0 := b2_no (by decide)
    refine okc_o (τ := τ2) ?_ ⟨nrP_n (by decide) a2 a1 a3 a4, qq⟩
    simp only [e274_44, e274_256, e274_269, e274_298, Option.getD_some, Option.bind_some, Option.toList_some, Option.toList_none, List.cons_append, List.nil_append, and_self, and_true, true_and, false_and, and_false, ite_self, not_true_eq_false, not_false_eq_true, reduceIte, Nat.reduceEqDiff, ab_I, ab_L, ab_R, ao_I, ao_L, ao_R, gL_sL, gI_sI, gR_sR, gI_sL, gI_sR, gL_sI, gL_sR, gR_sI, gR_sL, Int.reduceEq, s0, t1, t2]
  · obtain ⟨τ1, τ2, t1, t2, qq, a1, a2, a3, a4⟩ := ordu 48 47 49 50 0 1 (Or.inr ⟨rfl, rfl⟩) (Or.inr ⟨rfl, rfl⟩)
    rw [r47, r48] at a1 a2
    rw [r49, r50] at a3 a4
    have s0 : b2 (isSgn 176) = 0 := b2_no (by decide)
    refine okc_o (τ := τ2) ?_ ⟨nrP_n (by decide) a2 a1 a3 a4, qq⟩
    simp only [e274_44, e274_285, e274_298, Option.getD_some, Option.bind_some, Option.toList_some, Option.toList_none, List.cons_append, List.nil_append, and_self, and_true, true_and, false_and, and_false, ite_self, not_true_eq_false, not_false_eq_true, reduceIte, Nat.reduceEqDiff, ab_I, ab_L, ab_R, ao_I, ao_L, ao_R, gL_sL, gI_sI, gR_sR, gI_sL, gI_sR, gL_sI, gL_sR, gR_sI, gR_sL, Int.reduceEq, s0, t1, t2]
  · obtain ⟨τ1, τ2, t1, t2, qq, a1, a2, a3, a4⟩ := ords 48 47 49 50 1 0 (Or.inr ⟨rfl, rfl⟩) (Or.inr ⟨rfl, rfl⟩)
    rw [r47, r48] at a1 a2
    rw [r49, r50] at a3 a4
    have s0 : b2 (isSgn 192) = 1 := b2_yes (by decide)
    refine okc_o (τ := τ2) ?_ ⟨nrP_n (by decide) a2 a1 a3 a4, qq⟩
    simp only [e274_44, e274_256, e274_269, e274_298, Option.getD_some, Option.bind_some, Option.toList_some, Option.toList_none, List.cons_append, List.nil_append, and_self, and_true, true_and, false_and, and_false, ite_self, not_true_eq_false, not_false_eq_true, reduceIte, Nat.reduceEqDiff, ab_I, ab_L, ab_R, ao_I, ao_L, ao_R, gL_sL, gI_sI, gR_sR, gI_sL, gI_sR, gL_sI, gL_sR, gR_sI, gR_sL, Int.reduceEq, s0, t1, t2]
  · obtain ⟨τ1, τ2, t1, t2, qq, a1, a2, a3, a4⟩ := ords 48 47 49 50 0 1 (Or.inr ⟨rfl, rfl⟩) (Or.inr ⟨rfl, rfl⟩)
    rw [r47, r48] at a1 a2
    rw [r49, r50] at a3 a4
    have s0 : b2 (isSgn 208) = 1 := b2_yes (by decide)
    refine okc_o (τ := τ2) ?_ ⟨nrP_n (by decide) a2 a1 a3 a4, qq⟩
    simp only [e274_44, e274_285, e274_298, Option.getD_some, Option.bind_some, Option.toList_some, Option.toList_none, List.cons_append, List.nil_append, and_self, and_true, true_and, false_and, and_false, ite_self, not_true_eq_false, not_false_eq_true, reduceIte, Nat.reduceEqDiff, ab_I, ab_L, ab_R, ao_I, ao_L, ao_R, gL_sL, gI_sI, gR_sR, gI_sL, gI_sR, gL_sI, gL_sR, gR_sI, gR_sL, Int.reduceEq, s0, t1, t2]
end CNRW
