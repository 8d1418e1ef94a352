-- FILE 82.ccov
/-! ===== the class's states: COVERS ===== -/
def PRc (σ : MS) (P : PR) : Prop := gI σ 70 0 = (P.length : Int) ∧ ∀ j, j < P.length → gI σ 70 (2 * j + 1) = (P.getD j (0, 0)).1 ∧ gI σ 70 (2 * j + 2) = (P.getD j (0, 0)).2
def vc (τ σ : MS) : Prop := (∀ k s, ¬ k = 70 → gI τ k s = gI σ k s) ∧ (∀ k s, gL τ k s = gL σ k s) ∧ τ.2.2 = σ.2.2
def cvc (σ : MS) (n : Nat) (o : Option Rs) (r : Option PR) : Prop := match r with
  | some P' => okc o (some (mI 1)) (fun τ => PRc τ P' ∧ vc τ σ ∧ P'.length ≤ n)
  | none => okc o (some (mI 0)) (fun τ => vc τ σ)
section CCV
variable {σ τ : MS} {k j m n pl : Nat} {A S : ST} {P : PR} {u v : VL}
theorem vc_r (σ : MS) : vc σ σ := ⟨fun _ _ _ => rfl, fun _ _ => rfl, rfl⟩
theorem vc_t {a b c : MS} (h1 : vc a b) (h2 : vc b c) : vc a c := ⟨fun k s p => (h1.1 k s p).trans (h2.1 k s p), fun k s => (h1.2.1 k s).trans (h2.2.1 k s), h1.2.2.trans h2.2.2⟩
theorem PRc_w {a b : Int} (h : PRc σ P) : PRc (sI (sI (sI σ 70 (2 * P.length + 1) a) 70 (2 * P.length + 1 + 1) b) 70 0 ((P.length + 1 : Nat) : Int)) (P ++ [(a, b)]) := by
  refine ⟨?_, fun j hj => ?_⟩
  · rw [gI_sI, if_pos ⟨rfl, rfl⟩, List.length_append]
    rfl
  · rw [List.length_append] at hj
    have hj : j < P.length + 1 := hj
    have r1 : gI (sI (sI (sI σ 70 (2 * P.length + 1) a) 70 (2 * P.length + 1 + 1) b) 70 0 ((P.length + 1 : Nat) : Int)) 70 (2 * j + 1) = if j = P.length then a else gI σ 70 (2 * j + 1) := by
      rw [gI_sI, if_neg (by omega), gI_sI, if_neg (by omega), gI_sI]
      by_cases e : j = P.length
      · rw [if_pos e, if_pos (by omega)]
      · rw [if_neg e, if_neg (by omega)]
    have r2 : gI (sI (sI (sI σ 70 (2 * P.length + 1) a) 70 (2 * P.length + 1 + 1) b) 70 0 ((P.length + 1 : Nat) : Int)) 70 (2 * j + 2) = if j = P.length then b else gI σ 70 (2 * j + 2) := by
      rw [gI_sI, if_neg (by omega), gI_sI]
      by_cases e : j = P.length
      · rw [if_pos e, if_pos (by omega)]
      · rw [if_neg e, if_neg (by omega), gI_sI, if_neg (by omega)]
    rw [r1, r2]
    by_cases e : j = P.length
    · have g : (P ++ [(a, b)]).getD j (0, 0) = (a, b) := by
        rw [e, List.getD_eq_getElem?_getD, List.getElem?_append_right (Nat.le_refl _), Nat.sub_self]
        rfl
      rw [g, if_pos e, if_pos e]
      exact ⟨rfl, rfl⟩
    · have g : (P ++ [(a, b)]).getD j (0, 0) = P.getD j (0, 0) := by
        rw [List.getD_eq_getElem?_getD, List.getElem?_append_left (by omega), ← List.getD_eq_getElem?_getD]
      rw [g, if_neg e, if_neg e]
      exact h.2 j (by omega)
theorem vc_w {a b c : Int} {n m : Nat} : vc (sI (sI (sI σ 70 n a) 70 m b) 70 0 c) σ := by
  refine ⟨fun k s p => ?_, fun _ _ => rfl, rfl⟩
  rw [gI_sI, if_neg (fun z => p z.1), gI_sI, if_neg (fun z => p z.1), gI_sI, if_neg (fun z => p z.1)]
theorem L238n {a b : Int} (h1 : gI σ 70 0 = (P.length : Int)) (hn : P.length < 172) : RR (lkB tb238) (B238_30, [some (mI a), some (mI b), some (mR (some 70)), some (mI ((2 * P.length + 1 : Nat) : Int)), some (mI ((2 * P.length + 1 : Nat) : Int))], [], σ) = some (some (mI 1), sI (sI (sI σ 70 (2 * P.length + 1) a) 70 (2 * P.length + 1 + 1) b) 70 0 ((P.length + 1 : Nat) : Int)) := by
  have g0 : gI (sI (sI σ 70 (2 * P.length + 1) a) 70 (2 * P.length + 1 + 1) b) 70 0 = (P.length : Int) := by
    rw [gI_sI, if_neg (by omega), gI_sI, if_neg (by omega)]
    exact h1
  generalize P.length = n at *
  have l1 : 2 * n + 1 < 100000 := by omega
  have l2 : n < 100000 := by omega
  have n1 : ¬ 345 ≤ ((2 * n + 1 + 1 : Nat) : Int) := by omega
  have i1 : ((2 * n + 1 : Nat) : Int) < 345 := by omega
  have i2 : ((2 * n + 1 + 1 : Nat) : Int) < 345 := by omega
  have i3 := Int.natCast_nonneg (2 * n + 1)
  have i4 := Int.natCast_nonneg (2 * n + 1 + 1)
  have i0 : (0 : Int) ≤ 0 ∧ (0 : Int) < 345 := by decide
  generalize hm : 2 * n + 1 = m at *
  have w1 : w32 ((m : Int) + 1) = ((m + 1 : Nat) : Int) := w32_s l1
  have e3 := w32_s l2
  rw [e238_30, if_pos (Int.le_refl _), w1, if_neg n1]
  simp only [Option.getD_some, g_70, ab_I, Int.toNat_natCast, Int.toNat_zero]
  rw [if_pos ⟨i3, i1⟩, if_pos ⟨i4, i2⟩, if_pos i0, if_pos i0, g0, e3]
theorem L238x {a b : Int} {p N : Nat} (i1 : 0 ≤ (p : Int)) (j1 : (p : Int) < 345) (i2 : 0 ≤ ((p + 1 : Nat) : Int)) (j2 : ((p + 1 : Nat) : Int) < 345) (nl : ¬ (N : Int) ≤ (p : Int)) (w1 : w32 ((p : Int) + 1) = ((p + 1 : Nat) : Int)) : RR (lkB tb238) (B238_30, [some (mI a), some (mI b), some (mR (some 70)), some (mI (N : Int)), some (mI (p : Int))], [], σ) = if gI σ 70 p = a then RR (lkB tb238) (B238_54, [some (mI a), some (mI b), some (mR (some 70)), some (mI (N : Int)), some (mI (p : Int))], [], σ) else if ¬ gI σ 70 (p + 1) = b then RR (lkB tb238) (B238_30, [some (mI a), some (mI b), some (mR (some 70)), some (mI (N : Int)), some (mI (w32 ((p : Int) + 2)))], [], σ) else RR (lkB tb238) (B238_54, [some (mI a), some (mI b), some (mR (some 70)), some (mI (N : Int)), some (mI (p : Int))], [], σ) := by
  rw [e238_30, if_neg nl]
  simp only [Option.getD_some, g_70, ab_I, Int.toNat_natCast, w1]
  have c1 : 0 ≤ (p : Int) ∧ (p : Int) < 345 := ⟨i1, j1⟩
  have c2 : 0 ≤ ((p + 1 : Nat) : Int) ∧ ((p + 1 : Nat) : Int) < 345 := ⟨i2, j2⟩
  rw [if_pos c1, if_pos c2]
theorem L238y {a b : Int} {p N : Nat} (i1 : 0 ≤ (p : Int)) (j1 : (p : Int) < 345) (i2 : 0 ≤ ((p + 1 : Nat) : Int)) (j2 : ((p + 1 : Nat) : Int) < 345) (w1 : w32 ((p : Int) + 1) = ((p + 1 : Nat) : Int)) : RR (lkB tb238) (B238_54, [some (mI a), some (mI b), some (mR (some 70)), some (mI (N : Int)), some (mI (p : Int))], [], σ) = if ¬ gI σ 70 p = a then some (some (mI 0), σ) else if ¬ gI σ 70 (p + 1) = b then some (some (mI 0), σ) else some (some (mI 1), σ) := by
  rw [e238_54, e238_76]
  simp only [Option.getD_some, g_70, ab_I, Int.toNat_natCast, w1]
  have c1 : 0 ≤ (p : Int) ∧ (p : Int) < 345 := ⟨i1, j1⟩
  have c2 : 0 ≤ ((p + 1 : Nat) : Int) ∧ ((p + 1 : Nat) : Int) < 345 := ⟨i2, j2⟩
  rw [if_pos c1, if_pos c2]
theorem L238z {p N : Nat} (hp : p < N) (hN : p + 1 < 345) : ((p : Int) < 345 ∧ ((p + 1 : Nat) : Int) < 345) ∧ ¬ (N : Int) ≤ (p : Int) := by omega
theorem L238c {a b u v : Int} {p N : Nat} (hp : p < N) (hN : p + 1 < 345) (g1 : gI σ 70 p = u) (g2 : gI σ 70 (p + 1) = v) : RR (lkB tb238) (B238_30, [some (mI a), some (mI b), some (mR (some 70)), some (mI (N : Int)), some (mI (p : Int))], [], σ) = if u = a ∨ v = b then some (some (mI (b2 (u = a ∧ v = b))), σ) else RR (lkB tb238) (B238_30, [some (mI a), some (mI b), some (mR (some 70)), some (mI (N : Int)), some (mI ((p + 2 : Nat) : Int))], [], σ) := by
  have z := L238z hp hN
  have w1 : w32 ((p : Int) + 1) = ((p + 1 : Nat) : Int) := w32_s (Nat.lt_trans (Nat.lt_of_succ_lt hN) (by decide))
  have e3 : w32 ((p : Int) + 2) = ((p + 2 : Nat) : Int) := w_pl (pl := p) (c := 2) (Nat.lt_of_le_of_lt (Nat.succ_le_succ (Nat.le_of_lt hN)) (by decide))
  rw [L238x (Int.natCast_nonneg p) z.1.1 (Int.natCast_nonneg (p + 1)) z.1.2 z.2 w1, L238y (Int.natCast_nonneg p) z.1.1 (Int.natCast_nonneg (p + 1)) z.1.2 w1, g1, g2, e3]
  clear hp hN z w1 e3
  by_cases q1 : u = a
  · rw [if_pos q1, if_neg (not_not_intro q1), if_pos (Or.inl q1)]
    by_cases q2 : v = b
    · rw [b2_yes ⟨q1, q2⟩, if_neg (not_not_intro q2)]
    · rw [b2_no (fun z => q2 z.2), if_pos q2]
  · rw [if_neg q1, if_pos q1]
    by_cases q2 : v = b
    · rw [if_neg (not_not_intro q2), if_pos (Or.inr q2), b2_no (fun z => q1 z.1)]
    · rw [if_pos q2, if_neg (fun z => z.elim q1 q2)]
theorem L238s {a b : Int} {n : Nat} (a0 : ¬ a = 0) (b0 : ¬ b = 0) (h1 : gI σ 70 0 = (n : Int)) (hn : n < 172) : MM 238 [mI a, mI b, mR (some 70)] σ = RR (lkB tb238) (B238_30, [some (mI a), some (mI b), some (mR (some 70)), some (mI ((2 * n + 1 : Nat) : Int)), some (mI 1)], [], σ) := by
  have i0 : (0 : Int) < 345 := by decide
  have e2 : 1 + 2 * (n : Int) = ((2 * n + 1 : Nat) : Int) := by omega
  have b1 : -2147483648 ≤ 2 * (n : Int) ∧ 2 * (n : Int) < 2147483648 := by omega
  have b2' : -2147483648 ≤ ((2 * n + 1 : Nat) : Int) ∧ ((2 * n + 1 : Nat) : Int) < 2147483648 := by omega
  simp only [M238, e238_0, Option.getD_some, Option.bind_some, Option.toList_some, Option.toList_none, List.cons_append, List.nil_append, and_self, and_true, true_and, false_and, and_false, ite_self, not_true_eq_false, not_false_eq_true, reduceIte, Nat.reduceEqDiff, ab_I, ab_L, ab_R, ao_I, ao_L, ao_R, gL_sL, gI_sI, gR_sR, gI_sL, gI_sR, gL_sI, gL_sR, gR_sI, gR_sL, a0, b0, g_70, Int.le_refl, i0, Int.toNat_zero, h1, w32_i b1.1 b1.2, w32_i b2'.1 b2'.2, e2]
theorem T238 {a b : Int} (h : PRc σ P) (hn : P.length < 172) : cvc σ (P.length + 1) (MM 238 [mI a, mI b, mR (some 70)] σ) (answ P a b) := by
  have h1 := h.1
  have h2 := h.2
  unfold answ
  by_cases c : a = 0 ∨ b = 0
  · rw [if_pos c]
    have s8 : MM 238 [mI a, mI b, mR (some 70)] σ = RR (lkB tb238) (B238_8, [some (mI a), some (mI b), some (mR (some 70)), none, none], [], σ) := by
      by_cases a0 : a = 0
      · simp only [M238, e238_0, Option.getD_some, Option.bind_some, Option.toList_some, Option.toList_none, List.cons_append, List.nil_append, and_self, and_true, true_and, false_and, and_false, ite_self, not_true_eq_false, not_false_eq_true, reduceIte, Nat.reduceEqDiff, ab_I, ab_L, ab_R, ao_I, ao_L, ao_R, gL_sL, gI_sI, gR_sR, gI_sL, gI_sR, gL_sI, gL_sR, gR_sI, gR_sL, eq_true a0]
      · have b0 : b = 0 := c.resolve_left a0
        simp only [M238, e238_0, Option.getD_some, Option.bind_some, Option.toList_some, Option.toList_none, List.cons_append, List.nil_append, and_self, and_true, true_and, false_and, and_false, ite_self, not_true_eq_false, not_false_eq_true, reduceIte, Nat.reduceEqDiff, ab_I, ab_L, ab_R, ao_I, ao_L, ao_R, gL_sL, gI_sI, gR_sR, gI_sL, gI_sR, gL_sI, gL_sR, gR_sI, gR_sL, a0, eq_true b0]
    rw [s8, e238_8]
    by_cases e : a = b
    · rw [if_pos e, if_neg (not_not_intro e)]
      show okc _ _ (fun τ => PRc τ P ∧ vc τ σ ∧ P.length ≤ P.length + 1)
      exact okc_s ⟨h, vc_r _, Nat.le_succ _⟩
    · rw [if_neg e, if_pos e]
      show okc _ _ (fun τ => vc τ σ)
      exact okc_s (vc_r _)
  · rw [if_neg c]
    have a0 : ¬ a = 0 := fun q => c (Or.inl q)
    have b0 : ¬ b = 0 := fun q => c (Or.inr q)
    have key : ∀ (L B : PR), P = B ++ L → cvc σ (P.length + 1) (RR (lkB tb238) (B238_30, [some (mI a), some (mI b), some (mR (some 70)), some (mI ((2 * P.length + 1 : Nat) : Int)), some (mI ((2 * B.length + 1 : Nat) : Int))], [], σ)) (match L.find? (fun q => decide (q.1 = a ∨ q.2 = b)) with
        | some q => if q.1 = a ∧ q.2 = b then some P else none
        | none => some (P ++ [(a, b)])) := by
      intro L
      induction L with
      | nil =>
        intro B e
        rw [List.append_nil] at e
        rw [← e]
        show okc _ _ (fun τ => PRc τ (P ++ [(a, b)]) ∧ vc τ σ ∧ (P ++ [(a, b)]).length ≤ P.length + 1)
        refine okc_o (L238n h1 hn) ⟨PRc_w h, vc_w, ?_⟩
        rw [List.length_append]
        exact Nat.le_refl _
      | cons q L ih =>
        intro B e
        have lA : B.length < P.length := by
          rw [e, List.length_append, List.length_cons]
          omega
        have gq : P.getD B.length (0, 0) = q := by
          rw [e, List.getD_eq_getElem?_getD, List.getElem?_append_right (Nat.le_refl _), Nat.sub_self]
          rfl
        have gg := h2 B.length lA
        rw [gq] at gg
        obtain ⟨g1, g2⟩ := gg
        have g2' : gI σ 70 (2 * B.length + 1 + 1) = q.2 := g2
        have lp : 2 * B.length + 1 < 2 * P.length + 1 := by clear g1 g2 g2'; omega
        have lq : 2 * B.length + 1 + 1 < 345 := by clear g1 g2 g2'; omega
        rw [L238c lp lq g1 g2']
        by_cases q12 : q.1 = a ∨ q.2 = b
        · have fe : (q :: L).find? (fun q => decide (q.1 = a ∨ q.2 = b)) = some q := List.find?_cons_of_pos (decide_eq_true q12)
          rw [fe, if_pos q12]
          show cvc σ (P.length + 1) _ (if q.1 = a ∧ q.2 = b then some P else none)
          by_cases both : q.1 = a ∧ q.2 = b
          · rw [if_pos both, b2_yes both]
            show okc _ _ (fun τ => PRc τ P ∧ vc τ σ ∧ P.length ≤ P.length + 1)
            exact okc_s ⟨h, vc_r _, Nat.le_succ _⟩
          · rw [if_neg both, b2_no both]
            show okc _ _ (fun τ => vc τ σ)
            exact okc_s (vc_r _)
        · have fe : (q :: L).find? (fun q => decide (q.1 = a ∨ q.2 = b)) = L.find? (fun q => decide (q.1 = a ∨ q.2 = b)) := List.find?_cons_of_neg (by simpa using q12)
          rw [fe, if_neg q12]
          have ih := ih (B ++ [q]) (by rw [e, List.append_assoc]; rfl)
          rw [List.length_append] at ih
          exact ih
    have := key P [] rfl
    rw [L238s a0 b0 h1 hn]
    exact this
theorem T237 (h : isSt σ k) (h' : isSt σ j) (hp : pl + 11 ≤ 1188) (hu : cAt σ k pl u) (hv : cAt σ j pl v) (ku : ¬ vk u = 0) (kv : ¬ vk v = 0) : MM 237 [mR (some k), mI (pl : Int), mR (some (j + 1 + 0))] σ = some (some (mI (b2 (covN (vn u) (vn v)))), σ) := by
  have x1 := rd_1n hu ku
  have x2 := rd_2 hu
  have x3 := rd_3 hu
  have x4 := rd_4 hu
  have x5 := rd_5 hu
  have x6 := rd_6 hu
  have y1 := rd_1n hv kv
  have y2 := rd_2 hv
  have y3 := rd_3 hv
  have y4 := rd_4 hv
  have y5 := rd_5 hv
  have y6 := rd_6 hv
  have w1 : w32 ((pl : Int) + 1) = ((pl + 1 : Nat) : Int) := w_pl (c := 1) (by omega)
  have w2 : w32 ((pl : Int) + 2) = ((pl + 2 : Nat) : Int) := w_pl (c := 2) (by omega)
  have w3 : w32 ((pl : Int) + 3) = ((pl + 3 : Nat) : Int) := w_pl (c := 3) (by omega)
  have w4 : w32 ((pl : Int) + 4) = ((pl + 4 : Nat) : Int) := w_pl (c := 4) (by omega)
  have w5 : w32 ((pl : Int) + 5) = ((pl + 5 : Nat) : Int) := w_pl (c := 5) (by omega)
  have w6 : w32 ((pl : Int) + 6) = ((pl + 6 : Nat) : Int) := w_pl (c := 6) (by omega)
  have a1 := gSt h (show pl + 1 < 1188 by omega)
  have a2 := gSt h (show pl + 2 < 1188 by omega)
  have a3 := gSt h (show pl + 3 < 1188 by omega)
  have a4 := gSt h (show pl + 4 < 1188 by omega)
  have a5 := gSt h (show pl + 5 < 1188 by omega)
  have a6 := gSt h (show pl + 6 < 1188 by omega)
  have b1 := gSt h' (show pl + 1 < 1188 by omega)
  have b2' := gSt h' (show pl + 2 < 1188 by omega)
  have b3 := gSt h' (show pl + 3 < 1188 by omega)
  have b4 := gSt h' (show pl + 4 < 1188 by omega)
  have b5 := gSt h' (show pl + 5 < 1188 by omega)
  have b6 := gSt h' (show pl + 6 < 1188 by omega)
  generalize vn u = a at *
  generalize vn v = b at *
  by_cases c1 : jM b &&& ~~~ jM a = 0#64
  · by_cases c2 : (jV a ^^^ jV b) &&& ~~~ jM a = 0#64
    · by_cases c3 : jA b < jA a
      · rw [b2_no (p := covN a b) (fun z => z.1.1 c3)]
        simp only [M237, e237_0, e237_68, e237_130, Option.getD_some, Option.bind_some, Option.toList_some, Option.toList_none, List.cons_append, List.nil_append, and_self, and_true, true_and, false_and, and_false, ite_self, not_true_eq_false, not_false_eq_true, reduceIte, Nat.reduceEqDiff, ab_I, ab_L, ab_R, ao_I, ao_L, ao_R, gL_sL, gI_sI, gR_sR, gI_sL, gI_sR, gL_sI, gL_sR, gR_sI, gR_sL, aoS h, w1, w2, w3, a1, a2, a3, b1, b2', b3, Int.toNat_natCast, x1, x2, x3, y1, y2, y3, iL_m1, xor_all, eq_true c1, eq_true c2, T17, b2_n', eq_true c3]
      · by_cases c4 : jB a < jB b
        · rw [b2_no (p := covN a b) (fun z => z.1.2.1 c4)]
          simp only [M237, e237_0, e237_68, e237_87, e237_130, Option.getD_some, Option.bind_some, Option.toList_some, Option.toList_none, List.cons_append, List.nil_append, and_self, and_true, true_and, false_and, and_false, ite_self, not_true_eq_false, not_false_eq_true, reduceIte, Nat.reduceEqDiff, ab_I, ab_L, ab_R, ao_I, ao_L, ao_R, gL_sL, gI_sI, gR_sR, gI_sL, gI_sR, gL_sI, gL_sR, gR_sI, gR_sL, aoS h, w1, w2, w3, w4, a1, a2, a3, a4, b1, b2', b3, b4, Int.toNat_natCast, x1, x2, x3, x4, y1, y2, y3, y4, iL_m1, xor_all, eq_true c1, eq_true c2, T17, b2_n', c3, eq_true c4]
        · by_cases c5 : (jC b).toInt < (jC a).toInt
          · rw [b2_no (p := covN a b) (fun z => absurd z.1.2.2.1 (by omega))]
            simp only [M237, e237_0, e237_68, e237_87, e237_130, Option.getD_some, Option.bind_some, Option.toList_some, Option.toList_none, List.cons_append, List.nil_append, and_self, and_true, true_and, false_and, and_false, ite_self, not_true_eq_false, not_false_eq_true, reduceIte, Nat.reduceEqDiff, ab_I, ab_L, ab_R, ao_I, ao_L, ao_R, gL_sL, gI_sI, gR_sR, gI_sL, gI_sR, gL_sI, gL_sR, gR_sI, gR_sL, aoS h, w1, w2, w3, w4, w5, a1, a2, a3, a4, a5, b1, b2', b3, b4, b5, Int.toNat_natCast, x1, x2, x3, x4, x5, y1, y2, y3, y4, y5, iL_m1, xor_all, eq_true c1, eq_true c2, T17, b2_n', c3, c4, eq_true c5]
          · by_cases c6 : (jD a).toInt < (jD b).toInt
            · rw [b2_no (p := covN a b) (fun z => absurd z.1.2.2.2 (by omega))]
              simp only [M237, e237_0, e237_68, e237_87, e237_130, Option.getD_some, Option.bind_some, Option.toList_some, Option.toList_none, List.cons_append, List.nil_append, and_self, and_true, true_and, false_and, and_false, ite_self, not_true_eq_false, not_false_eq_true, reduceIte, Nat.reduceEqDiff, ab_I, ab_L, ab_R, ao_I, ao_L, ao_R, gL_sL, gI_sI, gR_sR, gI_sL, gI_sR, gL_sI, gL_sR, gR_sI, gR_sL, aoS h, w1, w2, w3, w4, w5, w6, a1, a2, a3, a4, a5, a6, b1, b2', b3, b4, b5, b6, Int.toNat_natCast, x1, x2, x3, x4, x5, x6, y1, y2, y3, y4, y5, y6, iL_m1, xor_all, eq_true c1, eq_true c2, T17, b2_n', c3, c4, c5, eq_true c6]
            · rw [b2_yes (p := covN a b) ⟨⟨c3, c4, by omega, by omega⟩, c1, c2⟩]
              simp only [M237, e237_0, e237_68, e237_87, Option.getD_some, Option.bind_some, Option.toList_some, Option.toList_none, List.cons_append, List.nil_append, and_self, and_true, true_and, false_and, and_false, ite_self, not_true_eq_false, not_false_eq_true, reduceIte, Nat.reduceEqDiff, ab_I, ab_L, ab_R, ao_I, ao_L, ao_R, gL_sL, gI_sI, gR_sR, gI_sL, gI_sR, gL_sI, gL_sR, gR_sI, gR_sL, aoS h, w1, w2, w3, w4, w5, w6, a1, a2, a3, a4, a5, a6, b1, b2', b3, b4, b5, b6, Int.toNat_natCast, x1, x2, x3, x4, x5, x6, y1, y2, y3, y4, y5, y6, iL_m1, xor_all, eq_true c1, eq_true c2, T17, b2_n', c3, c4, c5, c6]
    · rw [b2_no (p := covN a b) (fun z => c2 z.2.2)]
      simp only [M237, e237_0, Option.getD_some, Option.bind_some, Option.toList_some, Option.toList_none, List.cons_append, List.nil_append, and_self, and_true, true_and, false_and, and_false, ite_self, not_true_eq_false, not_false_eq_true, reduceIte, Nat.reduceEqDiff, ab_I, ab_L, ab_R, ao_I, ao_L, ao_R, gL_sL, gI_sI, gR_sR, gI_sL, gI_sR, gL_sI, gL_sR, gR_sI, gR_sL, aoS h, w1, w2, a1, a2, b1, b2', Int.toNat_natCast, x1, x2, y1, y2, iL_m1, xor_all, eq_true c1, eq_false c2]
  · rw [b2_no (p := covN a b) (fun z => c1 z.2.1)]
    simp only [M237, e237_0, Option.getD_some, Option.bind_some, Option.toList_some, Option.toList_none, List.cons_append, List.nil_append, and_self, and_true, true_and, false_and, and_false, ite_self, not_true_eq_false, not_false_eq_true, reduceIte, Nat.reduceEqDiff, ab_I, ab_L, ab_R, ao_I, ao_L, ao_R, gL_sL, gI_sI, gR_sR, gI_sL, gI_sR, gL_sI, gL_sR, gR_sI, gR_sL, aoS h, w2, a2, b2', Int.toNat_natCast, x2, y2, iL_m1, xor_all, eq_false c1]
theorem bv_sub64 (x y : B64) : (x &&& ~~~ y = 0#64) ↔ x &&& y = x := by
  constructor
  · intro h
    apply BitVec.eq_of_getLsbD_eq
    intro i hi
    have := congrArg (fun z => BitVec.getLsbD z i) h
    simp only [BitVec.getLsbD_and, BitVec.getLsbD_not, BitVec.getLsbD_zero, hi, decide_true, Bool.true_and] at this
    rw [BitVec.getLsbD_and]
    cases h1 : x.getLsbD i <;> cases h2 : y.getLsbD i <;> simp_all
  · intro h
    rw [← h, BitVec.and_assoc]
    simp
theorem iLnot {a b : Int} (ha : 0 ≤ a ∧ a < 256) (hb : 0 ≤ b ∧ b < 256) : (iL a &&& ~~~ iL b = 0#64) = (a.toNat &&& b.toNat = a.toNat) := by
  have na : (iL a).toNat = a.toNat := by
    unfold iL
    rw [BitVec.toNat_ofInt]
    omega
  have nb : (iL b).toNat = b.toNat := by
    unfold iL
    rw [BitVec.toNat_ofInt]
    omega
  apply propext
  rw [bv_sub64]
  constructor
  · intro h
    have := congrArg BitVec.toNat h
    rwa [BitVec.toNat_and, na, nb] at this
  · intro h
    apply BitVec.eq_of_toNat_eq
    rw [BitVec.toNat_and, na, nb]
    exact h
abbrev subU (u v : VL) : Prop := vr u = 0 ∨ (if vk v = 0 then (vr u).toNat &&& (vr v).toNat = (vr u).toNat else vk v = 1)
theorem T236 (h : isSt σ k) (h' : isSt σ j) (hp : pl + 11 ≤ 1188) (hu : cAt σ k pl u) (hv : cAt σ j pl v) (ku : vk u = 0) (wu : okW u) (wv : okW v) : MM 236 [mR (some k), mI (pl : Int), mR (some (j + 1 + 0))] σ = some (some (mI (b2 (subU u v))), σ) := by
  have x1 : gL σ (k + 1 + 0) (pl + 1) = iL (vr u) := (rd_1 hu).trans (if_pos ku)
  have y0 := rd_0 hv
  have y1 := rd_1 hv
  have w1 : w32 ((pl : Int) + 1) = ((pl + 1 : Nat) : Int) := w_pl (c := 1) (by omega)
  have a1 := gSt h (show pl + 1 < 1188 by omega)
  have b0 := gSt h' (show pl < 1188 by omega)
  have b1 := gSt h' (show pl + 1 < 1188 by omega)
  have ru := (wu.2.2.2.2.2.2.1 ku).2
  have k1 : (iL (vk v) = BitVec.ofNat 64 1) = (vk v = 1) := iL_o (by have := wv.1; omega)
  have k0 : (iL (vk v) = BitVec.ofNat 64 0) = (vk v = 0) := iL_z (by have := wv.1; omega)
  have r0 : (iL (vr u) = BitVec.ofNat 64 0) = (vr u = 0) := iL_z (by omega)
  by_cases c0 : vr u = 0
  · rw [b2_yes (p := subU u v) (Or.inl c0)]
    simp only [M236, e236_0, Option.getD_some, Option.bind_some, Option.toList_some, Option.toList_none, List.cons_append, List.nil_append, and_self, and_true, true_and, false_and, and_false, ite_self, not_true_eq_false, not_false_eq_true, reduceIte, Nat.reduceEqDiff, ab_I, ab_L, ab_R, ao_I, ao_L, ao_R, gL_sL, gI_sI, gR_sR, gI_sL, gI_sR, gL_sI, gL_sR, gR_sI, gR_sL, aoS h, w1, a1, Int.toNat_natCast, x1, r0, eq_true c0]
  · by_cases c1 : vk v = 1
    · rw [b2_yes (p := subU u v) (Or.inr (by rw [if_neg (by omega)]; exact c1))]
      simp only [M236, e236_0, Option.getD_some, Option.bind_some, Option.toList_some, Option.toList_none, List.cons_append, List.nil_append, and_self, and_true, true_and, false_and, and_false, ite_self, not_true_eq_false, not_false_eq_true, reduceIte, Nat.reduceEqDiff, ab_I, ab_L, ab_R, ao_I, ao_L, ao_R, gL_sL, gI_sI, gR_sR, gI_sL, gI_sR, gL_sI, gL_sR, gR_sI, gR_sL, aoS h, w1, a1, b0, Int.toNat_natCast, x1, y0, r0, c0, k1, eq_true c1]
    · by_cases c2 : vk v = 0
      · have rv := (wv.2.2.2.2.2.2.1 c2).2
        have nn := iLnot (a := vr u) (b := vr v) (by omega) (by omega)
        rw [if_pos c2] at y1
        by_cases c3 : (vr u).toNat &&& (vr v).toNat = (vr u).toNat
        · rw [b2_yes (p := subU u v) (Or.inr (by rw [if_pos c2]; exact c3))]
          simp only [M236, e236_0, Option.getD_some, Option.bind_some, Option.toList_some, Option.toList_none, List.cons_append, List.nil_append, and_self, and_true, true_and, false_and, and_false, ite_self, not_true_eq_false, not_false_eq_true, reduceIte, Nat.reduceEqDiff, ab_I, ab_L, ab_R, ao_I, ao_L, ao_R, gL_sL, gI_sI, gR_sR, gI_sL, gI_sR, gL_sI, gL_sR, gR_sI, gR_sL, aoS h, w1, a1, b0, b1, Int.toNat_natCast, x1, y0, y1, r0, c0, k1, c1, k0, eq_true c2, iL_m1, xor_all, nn, eq_true c3]
        · rw [b2_no (p := subU u v) (fun z => z.elim c0 (fun y => c3 (by rw [if_pos c2] at y; exact y)))]
          simp only [M236, e236_0, e236_53, Option.getD_some, Option.bind_some, Option.toList_some, Option.toList_none, List.cons_append, List.nil_append, and_self, and_true, true_and, false_and, and_false, ite_self, not_true_eq_false, not_false_eq_true, reduceIte, Nat.reduceEqDiff, ab_I, ab_L, ab_R, ao_I, ao_L, ao_R, gL_sL, gI_sI, gR_sR, gI_sL, gI_sR, gL_sI, gL_sR, gR_sI, gR_sL, aoS h, w1, a1, b0, b1, Int.toNat_natCast, x1, y0, y1, r0, c0, k1, c1, k0, eq_true c2, iL_m1, xor_all, nn, eq_false c3]
      · rw [b2_no (p := subU u v) (fun z => z.elim c0 (fun y => c1 (by rw [if_neg c2] at y; exact y)))]
        simp only [M236, e236_0, e236_53, Option.getD_some, Option.bind_some, Option.toList_some, Option.toList_none, List.cons_append, List.nil_append, and_self, and_true, true_and, false_and, and_false, ite_self, not_true_eq_false, not_false_eq_true, reduceIte, Nat.reduceEqDiff, ab_I, ab_L, ab_R, ao_I, ao_L, ao_R, gL_sL, gI_sI, gR_sR, gI_sL, gI_sR, gL_sI, gL_sR, gR_sI, gR_sL, aoS h, w1, a1, b0, Int.toNat_natCast, x1, y0, r0, c0, k1, c1, k0, c2]
theorem cvc_1 (h : PRc σ P) {o : Option Rs} (e : o = some (some (mI 1), σ)) : cvc σ (P.length + 1) o (some P) := okc_o e ⟨h, vc_r _, Nat.le_succ _⟩
theorem cvc_0 {n : Nat} {o : Option Rs} (e : o = some (some (mI 0), σ)) : cvc σ n o none := okc_o e (vc_r _)
theorem T235 (h : isSt σ k) (h' : isSt σ j) (hp : pl + 11 ≤ 1188) (hu : cAt σ k pl u) (hv : cAt σ j pl v) (wu : okW u) (wv : okW v) (hP : PRc σ P) (hn : P.length < 172) : cvc σ (P.length + 1) (MM 235 [mR (some k), mI (pl : Int), mR (some j), mR (some 70)] σ) (covP P u v) := by
  have x0 := rd_0 hu
  have x7 := rd_7 hu
  have x8 := rd_8 hu
  have x9 := rd_9 hu wu.2.2.2.2.2
  have x10 := rd_10 hu
  have y0 := rd_0 hv
  have y7 := rd_7 hv
  have y8 := rd_8 hv
  have y9 := rd_9 hv wv.2.2.2.2.2
  have y10 := rd_10 hv
  have w7 : w32 ((pl : Int) + 7) = ((pl + 7 : Nat) : Int) := w_pl (c := 7) (by omega)
  have w8 : w32 ((pl : Int) + 8) = ((pl + 8 : Nat) : Int) := w_pl (c := 8) (by omega)
  have w9 : w32 ((pl : Int) + 9) = ((pl + 9 : Nat) : Int) := w_pl (c := 9) (by omega)
  have w10 : w32 ((pl : Int) + 10) = ((pl + 10 : Nat) : Int) := w_pl (c := 10) (by omega)
  have a0 := gSt h (show pl < 1188 by omega)
  have a7 := gSt h (show pl + 7 < 1188 by omega)
  have a8 := gSt h (show pl + 8 < 1188 by omega)
  have a9 := gSt h (show pl + 9 < 1188 by omega)
  have a10 := gSt h (show pl + 10 < 1188 by omega)
  have b0 := gSt h' (show pl < 1188 by omega)
  have b7 := gSt h' (show pl + 7 < 1188 by omega)
  have b8 := gSt h' (show pl + 8 < 1188 by omega)
  have b9 := gSt h' (show pl + 9 < 1188 by omega)
  have b10 := gSt h' (show pl + 10 < 1188 by omega)
  obtain ⟨u1, u2, u3, u4, u5, u6⟩ := wu
  obtain ⟨v1, v2, v3, v4, v5, v6⟩ := wv
  have l0 : lI (iL (vk u)) = vk u := lIi (by omega) (by omega)
  have lt : lI (iL (vt u)) = vt u := lIi (by omega) (by omega)
  have lt' : lI (iL (vt v)) = vt v := lIi (by omega) (by omega)
  have ek : (iL (vk u) = iL (vk v)) = (vk u = vk v) := iL_e (by omega) (by omega)
  have eo : (iL (vo u) = iL (vo v)) = (vo u = vo v) := iL_e (by omega) (by omega)
  have ew : (iL (vw u) = iL (vw v)) = (vw u = vw v) := iL_e (by omega) (by omega)
  unfold covP
  by_cases c0 : vk u = 0
  · rw [if_neg (not_not_intro c0)]
    have t6 := T236 h h' hp hu hv c0 ⟨u1, u2, u3, u4, u5, u6⟩ ⟨v1, v2, v3, v4, v5, v6⟩
    have e : MM 235 [mR (some k), mI (pl : Int), mR (some j), mR (some 70)] σ = some (some (mI (b2 (subU u v))), σ) := by
      simp only [M235, e235_0, e235_23, Option.getD_some, Option.bind_some, Option.toList_some, Option.toList_none, List.cons_append, List.nil_append, and_self, and_true, true_and, false_and, and_false, ite_self, not_true_eq_false, not_false_eq_true, reduceIte, Nat.reduceEqDiff, ab_I, ab_L, ab_R, ao_I, ao_L, ao_R, gL_sL, gI_sI, gR_sR, gI_sL, gI_sR, gL_sI, gL_sR, gR_sI, gR_sL, aoS h, aoS h', a0, Int.toNat_natCast, x0, l0, eq_true c0, t6, bl_b2]
    by_cases s : subU u v
    · rw [if_pos s]
      rw [b2_yes s] at e
      exact cvc_1 hP e
    · rw [if_neg s]
      rw [b2_no s] at e
      exact cvc_0 e
  · rw [if_pos c0]
    by_cases d0 : vk v = 0
    · rw [if_neg (not_not_intro d0)]
      refine cvc_0 ?_
      have ne : ¬ vk u = vk v := by omega
      simp only [M235, e235_0, Option.getD_some, Option.bind_some, Option.toList_some, Option.toList_none, List.cons_append, List.nil_append, and_self, and_true, true_and, false_and, and_false, ite_self, not_true_eq_false, not_false_eq_true, reduceIte, Nat.reduceEqDiff, ab_I, ab_L, ab_R, ao_I, ao_L, ao_R, gL_sL, gI_sI, gR_sR, gI_sL, gI_sR, gL_sI, gL_sR, gR_sI, gR_sL, aoS h, aoS h', a0, b0, Int.toNat_natCast, x0, y0, l0, c0, ek, ne]
    · rw [if_pos d0]
      unfold covV
      rw [if_neg c0]
      by_cases c1 : vk u = vk v
      · rw [if_neg (not_not_intro c1)]
        have t7 := T237 h h' hp hu hv c0 d0
        by_cases c2 : vk u = 1
        · rw [if_pos c2]
          have e : MM 235 [mR (some k), mI (pl : Int), mR (some j), mR (some 70)] σ = some (some (mI (b2 (covN (vn u) (vn v)))), σ) := by
            simp only [M235, e235_0, e235_54, Option.getD_some, Option.bind_some, Option.toList_some, Option.toList_none, List.cons_append, List.nil_append, and_self, and_true, true_and, false_and, and_false, ite_self, not_true_eq_false, not_false_eq_true, reduceIte, Nat.reduceEqDiff, ab_I, ab_L, ab_R, ao_I, ao_L, ao_R, gL_sL, gI_sI, gR_sR, gI_sL, gI_sR, gL_sI, gL_sR, gR_sI, gR_sL, aoS h, aoS h', a0, b0, Int.toNat_natCast, x0, y0, l0, c0, ek, eq_true c1, eq_true c2, t7, bl_b2]
          by_cases s : covN (vn u) (vn v)
          · rw [if_pos s]
            rw [b2_yes s] at e
            exact cvc_1 hP e
          · rw [if_neg s]
            rw [b2_no s] at e
            exact cvc_0 e
        · rw [if_neg c2]
          have x9 : gL σ (k + 1 + 0) (pl + 9) = iL (vr u) := by rw [x9, if_neg c0]
          have y9 : gL σ (j + 1 + 0) (pl + 9) = iL (vr v) := by rw [y9, if_neg d0]
          have er : ((iL (vr v)).toInt < (iL (vr u)).toInt) = ¬ vr u ≤ vr v := by
            rw [iLt (by omega) (by omega), iLt (by omega) (by omega)]
            apply propext
            omega
          by_cases c3 : vo u = vo v
          · by_cases c4 : vw u = vw v
            · by_cases c5 : vr u ≤ vr v
              · by_cases s : covN (vn u) (vn v)
                · rw [if_pos ⟨⟨c4, c3, c5⟩, s⟩]
                  have t8 := T238 (a := vt u) (b := vt v) hP hn
                  rcases hA : answ P (vt u) (vt v) with _ | P'
                  · rw [hA] at t8
                    obtain ⟨τ, e, q⟩ := t8
                    show okc _ _ (fun τ => vc τ σ)
                    simp only [M235, e235_0, e235_130, e235_157, e235_164, Option.getD_some, Option.bind_some, Option.toList_some, Option.toList_none, List.cons_append, List.nil_append, and_self, and_true, true_and, false_and, and_false, ite_self, not_true_eq_false, not_false_eq_true, reduceIte, Nat.reduceEqDiff, ab_I, ab_L, ab_R, ao_I, ao_L, ao_R, gL_sL, gI_sI, gR_sR, gI_sL, gI_sR, gL_sI, gL_sR, gR_sI, gR_sL, aoS h, aoS h', a0, b0, a7, b7, a8, b8, a9, b9, a10, b10, w7, w8, w9, w10, Int.toNat_natCast, x0, y0, x7, y7, x8, y8, x9, y9, x10, y10, l0, c0, ek, eq_true c1, c2, eo, eq_true c3, ew, eq_true c4, er, eq_true c5, t7, b2_yes s, oneI, lt, lt', e]
                    exact okc_s q
                  · rw [hA] at t8
                    obtain ⟨τ, e, q⟩ := t8
                    show okc _ _ (fun τ => PRc τ P' ∧ vc τ σ ∧ P'.length ≤ P.length + 1)
                    simp only [M235, e235_0, e235_130, e235_157, Option.getD_some, Option.bind_some, Option.toList_some, Option.toList_none, List.cons_append, List.nil_append, and_self, and_true, true_and, false_and, and_false, ite_self, not_true_eq_false, not_false_eq_true, reduceIte, Nat.reduceEqDiff, ab_I, ab_L, ab_R, ao_I, ao_L, ao_R, gL_sL, gI_sI, gR_sR, gI_sL, gI_sR, gL_sI, gL_sR, gR_sI, gR_sL, aoS h, aoS h', a0, b0, a7, b7, a8, b8, a9, b9, a10, b10, w7, w8, w9, w10, Int.toNat_natCast, x0, y0, x7, y7, x8, y8, x9, y9, x10, y10, l0, c0, ek, eq_true c1, c2, eo, eq_true c3, ew, eq_true c4, er, eq_true c5, t7, b2_yes s, oneI, lt, lt', e]
                    exact okc_s q
                · rw [if_neg (fun z => s z.2)]
                  refine cvc_0 ?_
                  simp only [M235, e235_0, e235_130, e235_164, Option.getD_some, Option.bind_some, Option.toList_some, Option.toList_none, List.cons_append, List.nil_append, and_self, and_true, true_and, false_and, and_false, ite_self, not_true_eq_false, not_false_eq_true, reduceIte, Nat.reduceEqDiff, ab_I, ab_L, ab_R, ao_I, ao_L, ao_R, gL_sL, gI_sI, gR_sR, gI_sL, gI_sR, gL_sI, gL_sR, gR_sI, gR_sL, aoS h, aoS h', a0, b0, a7, b7, a8, b8, a9, b9, w7, w8, w9, Int.toNat_natCast, x0, y0, x7, y7, x8, y8, x9, y9, l0, c0, ek, eq_true c1, c2, eo, eq_true c3, ew, eq_true c4, er, eq_true c5, t7, b2_no s]
              · rw [if_neg (fun z => c5 z.1.2.2)]
                refine cvc_0 ?_
                simp only [M235, e235_0, e235_164, Option.getD_some, Option.bind_some, Option.toList_some, Option.toList_none, List.cons_append, List.nil_append, and_self, and_true, true_and, false_and, and_false, ite_self, not_true_eq_false, not_false_eq_true, reduceIte, Nat.reduceEqDiff, ab_I, ab_L, ab_R, ao_I, ao_L, ao_R, gL_sL, gI_sI, gR_sR, gI_sL, gI_sR, gL_sI, gL_sR, gR_sI, gR_sL, aoS h, aoS h', a0, b0, a7, b7, a8, b8, a9, b9, w7, w8, w9, Int.toNat_natCast, x0, y0, x7, y7, x8, y8, x9, y9, l0, c0, ek, eq_true c1, c2, eo, eq_true c3, ew, eq_true c4, er, c5]
            · rw [if_neg (fun z => c4 z.1.1)]
              refine cvc_0 ?_
              simp only [M235, e235_0, e235_164, Option.getD_some, Option.bind_some, Option.toList_some, Option.toList_none, List.cons_append, List.nil_append, and_self, and_true, true_and, false_and, and_false, ite_self, not_true_eq_false, not_false_eq_true, reduceIte, Nat.reduceEqDiff, ab_I, ab_L, ab_R, ao_I, ao_L, ao_R, gL_sL, gI_sI, gR_sR, gI_sL, gI_sR, gL_sI, gL_sR, gR_sI, gR_sL, aoS h, aoS h', a0, b0, a7, b7, a8, b8, w7, w8, Int.toNat_natCast, x0, y0, x7, y7, x8, y8, l0, c0, ek, eq_true c1, c2, eo, eq_true c3, ew, c4]
          · rw [if_neg (fun z => c3 z.1.2.1)]
            refine cvc_0 ?_
            simp only [M235, e235_0, e235_164, Option.getD_some, Option.bind_some, Option.toList_some, Option.toList_none, List.cons_append, List.nil_append, and_self, and_true, true_and, false_and, and_false, ite_self, not_true_eq_false, not_false_eq_true, reduceIte, Nat.reduceEqDiff, ab_I, ab_L, ab_R, ao_I, ao_L, ao_R, gL_sL, gI_sI, gR_sR, gI_sL, gI_sR, gL_sI, gL_sR, gR_sI, gR_sL, aoS h, aoS h', a0, b0, a7, b7, w7, Int.toNat_natCast, x0, y0, x7, y7, l0, c0, ek, eq_true c1, c2, eo, c3]
      · rw [if_pos c1]
        refine cvc_0 ?_
        simp only [M235, e235_0, Option.getD_some, Option.bind_some, Option.toList_some, Option.toList_none, List.cons_append, List.nil_append, and_self, and_true, true_and, false_and, and_false, ite_self, not_true_eq_false, not_false_eq_true, reduceIte, Nat.reduceEqDiff, ab_I, ab_L, ab_R, ao_I, ao_L, ao_R, gL_sL, gI_sI, gR_sR, gI_sL, gI_sR, gL_sI, gL_sR, gR_sI, gR_sL, aoS h, aoS h', a0, b0, Int.toNat_natCast, x0, y0, l0, c0, ek, c1]
/-! the whole row -/
def cvX (A S : ST) : List Nat → PR → Option PR
  | [], P => some P
  | m :: l, P => match covP P (plX A m) (plX S m) with
    | some P' => cvX A S l P'
    | none => none
theorem covP_V (h : vk u = 0 → vr u = 0) : covP P u v = covV P u v := by
  unfold covP
  by_cases c0 : vk u = 0
  · rw [if_neg (not_not_intro c0), if_pos (Or.inl (h c0))]
    unfold covV
    rw [if_pos c0]
  · rw [if_pos c0]
    by_cases d0 : vk v = 0
    · rw [if_neg (not_not_intro d0)]
      unfold covV
      rw [if_neg c0, if_pos (by omega)]
    · rw [if_pos d0]
theorem covP_3 {f : Int} : covP P (mkV 3 f 0) (mkV 3 f 0) = some P := by
  have c : covN (vn (mkV 3 f 0)) (vn (mkV 3 f 0)) := by
    show covN (cstN 0#64) (cstN 0#64)
    decide
  have k3 : ¬ vk (mkV 3 f 0) = 0 := by show ¬ (3 : Int) = 0; decide
  have k1 : ¬ vk (mkV 3 f 0) = 1 := by show ¬ (3 : Int) = 1; decide
  unfold covP
  rw [if_pos k3, if_pos k3]
  unfold covV
  rw [if_neg k3, if_neg (not_not_intro rfl), if_neg k1, if_pos ⟨⟨rfl, rfl, Int.le_refl _⟩, c⟩]
  unfold answ
  rw [if_pos (show vt (mkV 3 f 0) = 0 ∨ vt (mkV 3 f 0) = 0 from Or.inl rfl), if_pos rfl]
abbrev idX (m : Nat) : Nat := 26 * (m / 27) + (if m % 27 ≤ 10 then m % 27 else m % 27 - 1)
theorem cvX_K (hx : xS A) : ∀ (j m : Nat) (P : PR), 27 * sF A = m + j → cvX A S (List.range' m j) P = covK A S (List.range' (idX m) (26 * sF A - idX m)) P := by
  intro j
  induction j with
  | zero =>
    intro m P e
    have : 26 * sF A - idX m = 0 := by
      unfold idX
      split <;> omega
    rw [this]
    rfl
  | succ j ih =>
    intro m P e
    rw [List.range'_succ]
    show (match covP P (plX A m) (plX S m) with | some P' => cvX A S (List.range' (m + 1) j) P' | none => none) = _
    by_cases c : m % 27 = 10
    · have p1 : plX A m = mkV 3 ((m / 27 : Nat) : Int) 0 := if_pos c
      have p2 : plX S m = mkV 3 ((m / 27 : Nat) : Int) 0 := if_pos c
      rw [p1, p2, covP_3]
      have : idX m = idX (m + 1) := by
        unfold idX
        rw [if_pos (by omega), if_neg (by omega)]
        omega
      rw [this]
      exact ih (m + 1) P (by omega)
    · have e1 : idX (m + 1) = idX m + 1 := by
        unfold idX
        by_cases d : m % 27 = 26
        · rw [if_pos (by omega), if_neg (by omega)]
          omega
        · by_cases d2 : m % 27 < 10
          · rw [if_pos (by omega), if_pos (by omega)]
            omega
          · rw [if_neg (by omega), if_neg (by omega)]
            omega
      have le : idX m < 26 * sF A := by
        unfold idX
        split <;> omega
      rw [show 26 * sF A - idX m = (26 * sF A - (idX m + 1)) + 1 by omega, List.range'_succ]
      show _ = (match (if idX m % 26 < 10 then covV P (sV A (idX m)) (sV S (idX m)) else covP P (sV A (idX m)) (sV S (idX m))) with | some P' => covK A S (List.range' (idX m + 1) (26 * sF A - (idX m + 1))) P' | none => none)
      have pl : ∀ T : ST, plX T m = sV T (idX m) := fun T => by
        unfold plX idX
        rw [if_neg c]
        by_cases d2 : m % 27 < 10
        · rw [if_pos d2, if_pos (by omega)]
        · rw [if_neg d2, if_neg (by omega)]
      have eq : covP P (plX A m) (plX S m) = (if idX m % 26 < 10 then covV P (sV A (idX m)) (sV S (idX m)) else covP P (sV A (idX m)) (sV S (idX m))) := by
        rw [pl, pl]
        split
        · rename_i r
          exact covP_V (hx.2 _ le r)
        · rfl
      rw [← eq]
      rcases covP P (plX A m) (plX S m) with _ | P'
      · rfl
      · show cvX A S (List.range' (m + 1) j) P' = covK A S (List.range' (idX m + 1) (26 * sF A - (idX m + 1))) P'
        rw [← e1]
        exact ih (m + 1) P' (by omega)
theorem vc_at (h : vc τ σ) (c : cAt σ k pl v) : cAt τ k pl v := fun i hi => (h.2.1 _ _).trans (c i hi)
theorem L234 (hk : isSt σ k) (hj : isSt σ j) (nk : 70 < k ∨ k + 3 < 70) (nj : 70 < j ∨ j + 3 < 70) (hA : CSt σ k A) (hS : CSt σ j S) (hF : sF A = sF S ∧ sF A ≤ 4) (wA : okX A) (wS : okX S) : ∀ (i m : Nat) (P : PR) (τ : MS), 27 * sF A = m + i → PRc τ P → vc τ σ → P.length ≤ 64 + m → okc (RR (lkB tb234) (B234_100, [some (mR (some k)), some (mR (some j)), some (mR (some 70)), some (mI ((11 * m : Nat) : Int))], [], τ)) (some (mI (bSo (cvX A S (List.range' m i) P)))) (fun τ' => vc τ' σ) := by
  intro i
  induction i with
  | zero =>
    intro m P τ e hP hq hl
    have hτ := st_r hq.2.2 hk
    have g3 : gI τ k 3 = (sF A : Int) := (hq.1 _ _ (by omega)).trans hA.1.1
    have le : ((297 * sF A : Nat) : Int) ≤ ((11 * m : Nat) : Int) := by omega
    simp only [e234_100, Option.getD_some, Option.bind_some, Option.toList_some, Option.toList_none, List.cons_append, List.nil_append, and_self, and_true, true_and, false_and, and_false, ite_self, not_true_eq_false, not_false_eq_true, reduceIte, Nat.reduceEqDiff, ab_I, ab_L, ab_R, ao_I, ao_L, ao_R, gL_sL, gI_sI, gR_sR, gI_sL, gI_sR, gL_sI, gL_sR, gR_sI, gR_sL, aoS hτ, g3, wF_27 hF.2, le]
    exact okc_s hq
  | succ i ih =>
    intro m P τ e hP hq hl
    have hτ := st_r hq.2.2 hk
    have hτ' := st_r hq.2.2 hj
    have g3 : gI τ k 3 = (sF A : Int) := (hq.1 _ _ (by omega)).trans hA.1.1
    have nl : ¬ ((297 * sF A : Nat) : Int) ≤ ((11 * m : Nat) : Int) := by omega
    have t := T235 hτ hτ' (show 11 * m + 11 ≤ 1188 by omega) (vc_at hq (CSt_al hA m (by omega))) (vc_at hq (CSt_al hS m (by omega))) (wA m (by omega)) (wS m (by omega)) hP (by omega)
    have w := w11 (show m < 1000 by omega)
    rw [List.range'_succ]
    show okc _ (some (mI (bSo (match covP P (plX A m) (plX S m) with | some P' => cvX A S (List.range' (m + 1) i) P' | none => none)))) _
    rcases hV : covP P (plX A m) (plX S m) with _ | P'
    · rw [hV] at t
      obtain ⟨τ', e', q⟩ := t
      show okc _ (some (mI 0)) _
      simp only [e234_100, e234_119, Option.getD_some, Option.bind_some, Option.toList_some, Option.toList_none, List.cons_append, List.nil_append, and_self, and_true, true_and, false_and, and_false, ite_self, not_true_eq_false, not_false_eq_true, reduceIte, Nat.reduceEqDiff, ab_I, ab_L, ab_R, ao_I, ao_L, ao_R, gL_sL, gI_sI, gR_sR, gI_sL, gI_sR, gL_sI, gL_sR, gR_sI, gR_sL, aoS hτ, g3, wF_27 hF.2, nl, e']
      exact okc_s (vc_t q hq)
    · rw [hV] at t
      obtain ⟨τ', e', q1, q2, q3⟩ := t
      have n := ih (m + 1) P' τ' (by omega) q1 (vc_t q2 hq) (by omega)
      rw [e234_100]
      simp only [e234_119, Option.getD_some, Option.bind_some, Option.toList_some, Option.toList_none, List.cons_append, List.nil_append, and_self, and_true, true_and, false_and, and_false, ite_self, not_true_eq_false, not_false_eq_true, reduceIte, Nat.reduceEqDiff, ab_I, ab_L, ab_R, ao_I, ao_L, ao_R, gL_sL, gI_sI, gR_sR, gI_sL, gI_sR, gL_sI, gL_sR, gR_sI, gR_sL, aoS hτ, g3, wF_27 hF.2, nl, e', oneI, w]
      exact n
def covRx (A S : ST) (L1 L2 : List Int) (P : PR) : Bool := match covH L1 L2 P with
  | some P' => (cvX A S (List.range' 0 (27 * sF A)) P').isSome
  | none => false
theorem L234h (hk : isSt σ k) (hj : isSt σ j) (nk : 70 < k ∨ k + 3 < 70) (nj : 70 < j ∨ j + 3 < 70) (hA : CSt σ k A) (hS : CSt σ j S) (hF : sF A = sF S ∧ sF A ≤ 4) (wA : okX A) (wS : okX S) (hH : (sH A).length = (sH S).length ∧ (sH A).length ≤ 64) : ∀ (L1 L2 : List Int) (m : Nat) (P : PR) (τ : MS), L1.length = L2.length → (sH A).length = m + L1.length → (∀ i, i < L1.length → (sH A).getD (m + i) 0 = L1.getD i 0) → (∀ i, i < L2.length → (sH S).getD (m + i) 0 = L2.getD i 0) → PRc τ P → vc τ σ → P.length ≤ m → okc (RR (lkB tb234) (B234_63, [some (mR (some k)), some (mR (some j)), some (mR (some 70)), some (mI (m : Int))], [], τ)) (some (mI (b2 (covRx A S L1 L2 P = true)))) (fun τ' => vc τ' σ) := by
  intro L1
  induction L1 with
  | nil =>
    intro L2 m P τ e1 e2 h1 h2 hP hq hl
    have e2 : (sH A).length = m := e2
    have hτ := st_r hq.2.2 hk
    have g4 : gI τ k 4 = ((sH A).length : Int) := (hq.1 _ _ (by omega)).trans hA.1.2
    have le : ((sH A).length : Int) ≤ (m : Int) := by omega
    have l := L234 hk hj nk nj hA hS hF wA wS (27 * sF A) 0 P τ (by omega) hP hq (by omega)
    have eR : covRx A S [] L2 P = (cvX A S (List.range' 0 (27 * sF A)) P).isSome := rfl
    rw [eR]
    simp only [e234_63, Option.getD_some, Option.bind_some, Option.toList_some, Option.toList_none, List.cons_append, List.nil_append, and_self, and_true, true_and, false_and, and_false, ite_self, not_true_eq_false, not_false_eq_true, reduceIte, Nat.reduceEqDiff, ab_I, ab_L, ab_R, ao_I, ao_L, ao_R, gL_sL, gI_sI, gR_sR, gI_sL, gI_sR, gL_sI, gL_sR, gR_sI, gR_sL, aoS hτ, g4, le]
    exact l
  | cons a L1 ih =>
    intro L2 m P τ e1 e2 h1 h2 hP hq hl
    rcases L2 with _ | ⟨b, L2⟩
    · cases e1
    · have e1 : L1.length = L2.length := Nat.succ.inj e1
      have e2 : (sH A).length = m + (L1.length + 1) := e2
      have hτ := st_r hq.2.2 hk
      have hτ' := st_r hq.2.2 hj
      have g4 : gI τ k 4 = ((sH A).length : Int) := (hq.1 _ _ (by omega)).trans hA.1.2
      have ga : gI τ (k + 1 + 2) m = a := by
        rw [hq.1 _ _ (by omega), hA.2.2.2.2.2 m (by omega)]
        exact h1 0 (Nat.succ_pos _)
      have gb : gI τ (j + 1 + 2) m = b := by
        rw [hq.1 _ _ (by omega), hS.2.2.2.2.2 m (by omega)]
        exact h2 0 (Nat.succ_pos _)
      have nl : ¬ ((sH A).length : Int) ≤ (m : Int) := by omega
      have m64 : (m : Int) < 64 := by omega
      have b1 : (Option.isSome (some (k + 1 + 2)) = true ∧ ab τ 3 (k + 1 + 2) (m : Int)) = True := eq_true ((abH hτ).mpr ⟨Int.natCast_nonneg _, m64⟩)
      have b2' : (Option.isSome (some (j + 1 + 2)) = true ∧ ab τ 3 (j + 1 + 2) (m : Int)) = True := eq_true ((abH hτ').mpr ⟨Int.natCast_nonneg _, m64⟩)
      have t := T238 (a := a) (b := b) hP (by omega)
      have m1 : m < 100000 := by omega
      have eR : covRx A S (a :: L1) (b :: L2) P = (match answ P a b with | some P' => covRx A S L1 L2 P' | none => false) := by
        unfold covRx
        show (match (match answ P a b with | some P' => covH L1 L2 P' | none => none) with | some P' => (cvX A S (List.range' 0 (27 * sF A)) P').isSome | none => false) = _
        rcases answ P a b with _ | P'
        · rfl
        · rfl
      rw [eR]
      rcases hV : answ P a b with _ | P'
      · rw [hV] at t
        obtain ⟨τ', e', q⟩ := t
        rw [show b2 ((match (none : Option PR) with | some P' => covRx A S L1 L2 P' | none => false) = true) = 0 from rfl]
        simp only [e234_63, e234_87, Option.getD_some, Option.bind_some, Option.toList_some, Option.toList_none, List.cons_append, List.nil_append, and_self, and_true, true_and, false_and, and_false, ite_self, not_true_eq_false, not_false_eq_true, reduceIte, Nat.reduceEqDiff, ab_I, ab_L, ab_R, ao_I, ao_L, ao_R, gL_sL, gI_sI, gR_sR, gI_sL, gI_sR, gL_sI, gL_sR, gR_sI, gR_sL, aoS hτ, aoS hτ', g4, nl, b1, b2', Int.toNat_natCast, ga, gb, e']
        exact okc_s (vc_t q hq)
      · rw [hV] at t
        obtain ⟨τ', e', q1, q2, q3⟩ := t
        have n := ih L2 (m + 1) P' τ' e1 (by omega) (fun i hi => by
          have := h1 (i + 1) (Nat.succ_lt_succ hi)
          rw [show m + 1 + i = m + (i + 1) by omega]
          exact this) (fun i hi => by
          have := h2 (i + 1) (Nat.succ_lt_succ hi)
          rw [show m + 1 + i = m + (i + 1) by omega]
          exact this) q1 (vc_t q2 hq) (by omega)
        have w := w32_s m1
        rw [e234_63]
        simp only [e234_87, Option.getD_some, Option.bind_some, Option.toList_some, Option.toList_none, List.cons_append, List.nil_append, and_self, and_true, true_and, false_and, and_false, ite_self, not_true_eq_false, not_false_eq_true, reduceIte, Nat.reduceEqDiff, ab_I, ab_L, ab_R, ao_I, ao_L, ao_R, gL_sL, gI_sI, gR_sR, gI_sL, gI_sR, gL_sI, gL_sR, gR_sI, gR_sL, aoS hτ, aoS hτ', g4, nl, b1, b2', Int.toNat_natCast, ga, gb, e', oneI, w]
        exact n
abbrev bkE (A S : ST) : Bool := (List.range (sF A)).all fun f => decide (f = 0 ∨ sB A f = sB S f)
theorem T234 (hk : isSt σ k) (hj : isSt σ j) (nk : 70 < k ∨ k + 3 < 70) (nj : 70 < j ∨ j + 3 < 70) (hA : CSt σ k A) (hS : CSt σ j S) (hF : (1 ≤ sF A ∧ sF A ≤ 4) ∧ 1 ≤ sF S ∧ sF S ≤ 4) (wA : okX A) (wS : okX S) (hH : (sH A).length ≤ 64) (xA : xS A) : okc (MM 234 [mR (some k), mR (some j), mR (some 70)] σ) (some (mI (b2 (covS A S = true)))) (fun τ => vc τ σ) := by
  have f3 := hA.1.1
  have f3' := hS.1.1
  have f4 := hA.1.2
  have f4' := hS.1.2
  by_cases c1 : sF A = sF S
  · by_cases c2 : (sH A).length = (sH S).length
    · have q1 : vc (sI σ 70 0 0) σ := ⟨fun k s p => by rw [gI_sI, if_neg (fun z => p z.1)], fun _ _ => rfl, rfl⟩
      have hP : PRc (sI σ 70 0 0) [] := ⟨by rw [gI_sI, if_pos ⟨rfl, rfl⟩]; rfl, fun j hj => absurd hj (Nat.not_lt_zero _)⟩
      have hk1 : isSt (sI σ 70 0 0) k := hk
      have hj1 : isSt (sI σ 70 0 0) j := hj
      have cov : covS A S = (bkE A S && covRx A S (sH A) (sH S) []) := by
        have eX : ∀ P, (cvX A S (List.range' 0 (27 * sF A)) P).isSome = (covK A S (List.range (26 * sF A)) P).isSome := fun P => by
          rw [cvX_K xA (27 * sF A) 0 P (by omega), List.range_eq_range']
          rfl
        unfold covS covRx
        rw [decide_eq_true (show sF A = sF S ∧ (sH A).length = (sH S).length from ⟨c1, c2⟩), Bool.true_and]
        congr 1
        rcases covH (sH A) (sH S) [] with _ | P
        · rfl
        · exact (eX P).symm
      -- where FUNCTIONS go back
      have key : ∀ (i f : Nat), f + i = sF A → 1 ≤ f → (∀ g, 1 ≤ g → g < f → sB A g = sB S g) → okc (RR (lkB tb234) (B234_30, [some (mR (some k)), some (mR (some j)), some (mR (some 70)), some (mI (f : Int))], [], sI σ 70 0 0)) (some (mI (b2 (covS A S = true)))) (fun τ => vc τ σ) := by
        intro i
        induction i with
        | zero =>
          intro f e f1 hb
          have le : (sF A : Int) ≤ (f : Int) := by omega
          have bt : bkE A S = true := List.all_eq_true.mpr fun g hg => by
            have := List.mem_range.mp hg
            by_cases g0 : g = 0
            · exact decide_eq_true (Or.inl g0)
            · exact decide_eq_true (Or.inr (hb g (by omega) (by omega)))
          have l := L234h hk hj nk nj hA hS ⟨c1, hF.1.2⟩ wA wS ⟨c2, hH⟩ (sH A) (sH S) 0 [] (sI σ 70 0 0) c2 (by omega) (fun i _ => by rw [Nat.zero_add]) (fun i _ => by rw [Nat.zero_add]) hP q1 (Nat.zero_le _)
          rw [cov, bt, Bool.true_and]
          have g3 : gI (sI σ 70 0 0) k 3 = (sF A : Int) := (q1.1 _ _ (by omega)).trans f3
          rw [e234_30]
          simp only [Option.getD_some, Option.bind_some, Option.toList_some, Option.toList_none, List.cons_append, List.nil_append, and_self, and_true, true_and, false_and, and_false, ite_self, not_true_eq_false, not_false_eq_true, reduceIte, Nat.reduceEqDiff, ab_I, ab_L, ab_R, ao_I, ao_L, ao_R, gL_sL, gI_sI, gR_sR, gI_sL, gI_sR, gL_sI, gL_sR, gR_sI, gR_sL, aoS hk, g3, le]
          exact l
        | succ i ih =>
          intro f e f1 hb
          have nl : ¬ (sF A : Int) ≤ (f : Int) := by omega
          have f4 : (f : Int) < 4 := by omega
          have b1 : (Option.isSome (some (k + 1 + 1)) = true ∧ ab (sI σ 70 0 0) 3 (k + 1 + 1) (f : Int)) = True := eq_true ((abB hk1).mpr ⟨Int.natCast_nonneg _, f4⟩)
          have b2' : (Option.isSome (some (j + 1 + 1)) = true ∧ ab (sI σ 70 0 0) 3 (j + 1 + 1) (f : Int)) = True := eq_true ((abB hj1).mpr ⟨Int.natCast_nonneg _, f4⟩)
          have g3 : gI (sI σ 70 0 0) k 3 = (sF A : Int) := (q1.1 _ _ (by omega)).trans f3
          have ga : gI (sI σ 70 0 0) (k + 1 + 1) f = sB A f := (q1.1 _ _ (by omega)).trans (hA.2.2.2.2.1 f f1 (by omega))
          have gb : gI (sI σ 70 0 0) (j + 1 + 1) f = sB S f := (q1.1 _ _ (by omega)).trans (hS.2.2.2.2.1 f f1 (by omega))
          have f1' : f < 100000 := by omega
          by_cases c : sB A f = sB S f
          · have n := ih (f + 1) (by omega) (by omega) (fun g g1 g2 => by
              by_cases z : g = f
              · rw [z]; exact c
              · exact hb g g1 (by omega))
            have w := w32_s f1'
            rw [e234_30]
            simp only [Option.getD_some, b1, b2', aoS hk1, aoS hj1, g3, nl, Int.toNat_natCast, ga, gb, eq_true c, w, if_true, if_false]
            exact n
          · have bf : bkE A S = false := List.all_eq_false.mpr ⟨f, List.mem_range.mpr (by omega), fun z => by
              rcases of_decide_eq_true z with z | z
              · omega
              · exact c z⟩
            rw [cov, bf, Bool.false_and, b2_no (p := false = true) (by decide)]
            rw [e234_30]
            simp only [Option.getD_some, b1, b2', aoS hk1, aoS hj1, g3, nl, Int.toNat_natCast, ga, gb, eq_false c, if_true, if_false]
            exact okc_s q1
      have := key (sF A - 1) 1 (by omega) (Nat.le_refl _) (fun g g1 g2 => absurd g1 (by omega))
      have ef : (((sF A : Nat) : Int) = ((sF S : Nat) : Int)) = True := eq_true (by rw [c1])
      have eh : (((sH A).length : Int) = ((sH S).length : Int)) = True := eq_true (by rw [c2])
      have i0 : (0 : Int) < 345 := by decide
      simp only [M234, e234_0, Option.getD_some, Option.bind_some, Option.toList_some, Option.toList_none, List.cons_append, List.nil_append, and_self, and_true, true_and, false_and, and_false, ite_self, not_true_eq_false, not_false_eq_true, reduceIte, Nat.reduceEqDiff, ab_I, ab_L, ab_R, ao_I, ao_L, ao_R, gL_sL, gI_sI, gR_sR, gI_sL, gI_sR, gL_sI, gL_sR, gR_sI, gR_sL, aoS hk, aoS hj, f3, f3', f4, f4', ef, eh, g_70, Int.le_refl, i0, Int.toNat_zero]
      exact this
    · have cf : covS A S = false := by
        unfold covS
        rw [decide_eq_false (fun z => c2 z.2)]
        rfl
      rw [cf, b2_no (p := false = true) (by decide)]
      have ef : (((sF A : Nat) : Int) = ((sF S : Nat) : Int)) = True := eq_true (by rw [c1])
      have eh : (((sH A).length : Int) = ((sH S).length : Int)) = False := eq_false (by omega)
      simp only [M234, e234_0, Option.getD_some, Option.bind_some, Option.toList_some, Option.toList_none, List.cons_append, List.nil_append, and_self, and_true, true_and, false_and, and_false, ite_self, not_true_eq_false, not_false_eq_true, reduceIte, Nat.reduceEqDiff, ab_I, ab_L, ab_R, ao_I, ao_L, ao_R, gL_sL, gI_sI, gR_sR, gI_sL, gI_sR, gL_sI, gL_sR, gR_sI, gR_sL, aoS hk, aoS hj, f3, f3', f4, f4', ef, eh]
      exact okc_s (vc_r _)
  · have cf : covS A S = false := by
      unfold covS
      rw [decide_eq_false (fun z => c1 z.1)]
      rfl
    rw [cf, b2_no (p := false = true) (by decide)]
    have ef : (((sF A : Nat) : Int) = ((sF S : Nat) : Int)) = False := eq_false (by omega)
    simp only [M234, e234_0, Option.getD_some, Option.bind_some, Option.toList_some, Option.toList_none, List.cons_append, List.nil_append, and_self, and_true, true_and, false_and, and_false, ite_self, not_true_eq_false, not_false_eq_true, reduceIte, Nat.reduceEqDiff, ab_I, ab_L, ab_R, ao_I, ao_L, ao_R, gL_sL, gI_sI, gR_sR, gI_sL, gI_sR, gL_sI, gL_sR, gR_sI, gR_sL, aoS hk, aoS hj, f3, f3', ef]
    exact okc_s (vc_r _)
end CCV
-- FILE 83.cop
/-! ===== the class's operations against the pure ones ===== -/
section COP
variable {x y a b n m : N6} {c off op : Int} {u v : B64}
theorem td_by (h : byB n = byB m) : tdN n = tdN m := by
  unfold tdN
  rw [h]
theorem smax_min (v : B64) : smax cMin v = v := by
  unfold smax
  have h1 : cMin.toInt = -9223372036854775808 := by decide
  have h2 := toInt_rng v
  by_cases h : v.toInt ≤ cMin.toInt
  · rw [if_pos h]
    apply BitVec.eq_of_toInt_eq
    omega
  · rw [if_neg h]
theorem smin_max (v : B64) : smin cMax v = v := by
  unfold smin
  have h1 : cMax.toInt = 9223372036854775807 := by decide
  have h2 := toInt_rng v
  by_cases h : cMax.toInt ≤ v.toInt
  · rw [if_pos h]
    apply BitVec.eq_of_toInt_eq
    omega
  · rw [if_neg h]
theorem cutT_cst (v : B64) : cutT (cstN v) = cstN (v &&& cF) := by
  have e : tdN (cutN (cstN v)) = tdN (cstN (v &&& cF)) := by
    refine td_by ?_
    have c1 : cutN (cstN v) = (v &&& cF, 0#64, v &&& cF, v &&& cF, cMin, cMax) := by
      show (v &&& cF, 0#64 &&& cF, (if v >>> 32 = v >>> 32 then v &&& cF else 0#64), (if v >>> 32 = v >>> 32 then v &&& cF else cF), cMin, cMax) = _
      rw [if_pos rfl, if_pos rfl]
      have : 0#64 &&& cF = 0#64 := by decide
      rw [this]
    rw [c1]
    generalize v &&& cF = d
    have x0 : d ||| 0#64 = d := by simp
    have x1 : ∀ q : B64, 0#64 &&& q = 0#64 := fun q => by simp
    show (d, 0#64, bmax d d, bmin d (d ||| 0#64), smax cMin (d ||| (0#64 &&& cMin)), smin cMax (d ||| (0#64 &&& cMax))) = (d, 0#64, bmax d d, bmin d (d ||| 0#64), smax d (d ||| (0#64 &&& cMin)), smin d (d ||| (0#64 &&& cMax)))
    rw [x1, x1, x0, smax_min, smin_max]
    have sm : smax d d = d := by unfold smax; split <;> rfl
    have sn : smin d d = d := by unfold smin; split <;> rfl
    rw [sm, sn]
  unfold cutT
  rw [e, tdN_cst]
theorem cutT_any : cutT anyN = wideN 4 := by decide +kernel
/-! what is CUT has low bits alone -/
theorem lo_and (v w : B64) (h : v.toNat < 4294967296) : (v &&& w).toNat < 4294967296 := by
  rw [BitVec.toNat_and]
  exact Nat.lt_of_le_of_lt Nat.and_le_left h
theorem lo_or (v w : B64) (h : v.toNat < 4294967296) (h2 : w.toNat < 4294967296) : (v ||| w).toNat < 4294967296 := by
  rw [BitVec.toNat_or]
  exact Nat.or_lt_two_pow (n := 32) h h2
theorem lo_cF (v : B64) : (v &&& cF).toNat < 4294967296 := by
  rw [low32]
  exact Nat.mod_lt _ (by decide)
theorem lo_bmax (v w : B64) (h : v.toNat < 4294967296) (h2 : w.toNat < 4294967296) : (bmax v w).toNat < 4294967296 := by
  rw [bmax_toNat]
  omega
theorem cut_lo (x : N6) : (jV (cutT x)).toNat < 4294967296 := by
  have v0 : (jV (cutN x)).toNat < 4294967296 := lo_cF _
  have m0 : (jM (cutN x)).toNat < 4294967296 := lo_cF _
  have a0 : (jA (cutN x)).toNat < 4294967296 := by
    show (if jA x >>> 32 = jB x >>> 32 then jA x &&& cF else 0#64).toNat < 4294967296
    split
    · exact lo_cF _
    · decide
  have c0 : jC (cutN x) = cMin := rfl
  have d0 : jD (cutN x) = cMax := rfl
  unfold cutT
  generalize cutN x = n at *
  have mm : jM n &&& cMin = 0#64 := by
    apply BitVec.eq_of_toNat_eq
    rw [BitVec.toNat_and]
    have : cMin.toNat = 2 ^ 63 := by decide
    rw [this]
    apply Nat.eq_of_testBit_eq
    intro i
    rw [Nat.testBit_and, Nat.testBit_two_pow]
    by_cases e : i = 63
    · subst e
      have : (jM n).toNat.testBit 63 = false := Nat.testBit_lt_two_pow (Nat.lt_trans m0 (by decide))
      rw [this]
      simp
    · simp
      intro _
      omega
  have b1 : (jA (byB n)).toNat < 4294967296 := lo_bmax _ _ a0 v0
  have b2' : jC (byB n) = jV n := by
    show smax (jC n) (jV n ||| (jM n &&& cMin)) = jV n
    rw [mm, c0, smax_min]
    simp
  have t1 : (jA (td1 (byB n))).toNat < 4294967296 := by
    unfold td1
    split
    · show (bmax (jA (byB n)) (jC (byB n))).toNat < 4294967296
      rw [b2']
      exact lo_bmax _ _ b1 v0
    · exact b1
  have v1 : jV (td1 (byB n)) = jV n := by
    unfold td1
    split <;> rfl
  have t2 : (jA (td2 (td1 (byB n)))).toNat < 4294967296 := by
    unfold td2
    split
    · exact t1
    · exact t1
  have v2 : jV (td2 (td1 (byB n))) = jV n := by
    unfold td2
    split
    · exact v1
    · exact v1
  unfold tdN
  split
  · show (jV (td2 (td1 (byB n))) ||| (jA (td2 (td1 (byB n))) &&& ~~~ sprd (jA (td2 (td1 (byB n))) ^^^ jB (td2 (td1 (byB n)))))).toNat < 4294967296
    rw [v2]
    exact lo_or _ _ v0 (lo_and _ _ t2)
  · rw [v2]
    exact v0
theorem lo_m (h : v.toNat < 4294967296) : v &&& cF = v := by
  apply BitVec.eq_of_toNat_eq
  rw [low32]
  exact Nat.mod_eq_of_lt h
theorem cut_m (x : N6) : jV (cutT x) &&& cF = jV (cutT x) := lo_m (cut_lo x)
theorem cF_cF (v : B64) : v &&& cF &&& cF = v &&& cF := lo_m (lo_cF v)
/-- what makeTold and combine make -/
def clsZ (op off : Int) (a b : N6) : N6 := if tolC op a b ∧ tolQ op off then cstN (tolV op off (jV a) (jV b)) else if tolS op off then anyN else cmbN (op / 16 * 16) off (if op % 8 = 7 then 64 else 32) a b
theorem mul_c (h : isC a ∧ isC b) : mulN a b = cstN (jV a * jV b) := if_pos h
theorem div_c (h : isC a ∧ isC b) : divN a b = cstN (jV a / jV b) := if_pos h
theorem rem_c (h : isC a ∧ isC b) : remN a b = cstN (jV a % jV b) := if_pos h
theorem tolC_n (h : ¬ op / 16 * 16 = 176) : tolC op a b ↔ isC a ∧ isC b := ⟨fun z => ⟨z.1.resolve_right h, z.2⟩, fun z => ⟨Or.inl z.1, z.2⟩⟩
theorem cls_w (h7 : op % 8 = 7) (hc : okO (op / 16 * 16) off) (h0 : ¬ (op / 16 * 16 = 48 ∨ op / 16 * 16 = 144) → off = 0) : tdN (clsZ op off a b) = opN (op / 16 * 16) off a b := by
  have n176 : ¬ op / 16 * 16 = 176 := by
    rcases hc.1 with z | z | z | z | z | z | z | z | z | z | z <;> omega
  have e1 : ∀ d : N6, (if op % 8 = 7 then d else d) = d := fun d => by split <;> rfl
  have tv : ∀ p q : B64, tolV op off p q = reckA (op / 16 * 16) off true p q := fun p q => if_pos h7
  unfold clsZ
  simp only [tolC_n n176, tv, h7, if_true, tolQ, tolS, Int.reduceEq, and_false, or_false]
  generalize op / 16 * 16 = c at *
  by_cases o1 : off = 1
  · have hq : c = 48 ∨ c = 144 := Classical.byContradiction fun z => by have := h0 z; omega
    by_cases cc : isC a ∧ isC b
    · rw [if_pos ⟨cc, Or.inl o1⟩, tdN_cst]
      rcases hq with rfl | rfl
      · show _ = (if off = 1 then (if isC a ∧ isC b then cstN (reck 48 off true (jV a) (jV b)) else anyN) else _)
        rw [if_pos o1, if_pos cc]
        rfl
      · show _ = (if off = 1 then (if isC a ∧ isC b then cstN (reck 144 off true (jV a) (jV b)) else anyN) else _)
        rw [if_pos o1, if_pos cc]
        rfl
    · rw [if_neg (fun z => cc z.1), if_pos o1, tdN_any]
      rcases hq with rfl | rfl
      · show _ = (if off = 1 then (if isC a ∧ isC b then cstN (reck 48 off true (jV a) (jV b)) else anyN) else _)
        rw [if_pos o1, if_neg cc]
      · show _ = (if off = 1 then (if isC a ∧ isC b then cstN (reck 144 off true (jV a) (jV b)) else anyN) else _)
        rw [if_pos o1, if_neg cc]
  · have o0 : off = 0 := by
      by_cases z : c = 48 ∨ c = 144
      · have := hc.2 z; omega
      · exact h0 z
    subst o0
    have nb : ∀ (p q : B64), (if (0 : Int) = 1 then p else q) = q := fun p q => if_neg (by decide)
    rcases hc.1 with rfl | rfl | rfl | rfl | rfl | rfl | rfl | rfl | rfl | rfl | rfl
    · rw [if_neg (by omega), if_neg (by omega)]; rfl
    · rw [if_neg (by omega), if_neg (by omega)]; rfl
    · by_cases cc : isC a ∧ isC b
      · rw [if_pos ⟨cc, by omega⟩, tdN_cst]
        show _ = tdN (mulN a b)
        rw [mul_c cc, tdN_cst]
        rfl
      · rw [if_neg (fun z => cc z.1), if_neg (by omega)]; rfl
    · by_cases cc : isC a ∧ isC b
      · rw [if_pos ⟨cc, by omega⟩, tdN_cst]
        show _ = tdN (divN a b)
        rw [div_c cc, tdN_cst]
        rfl
      · rw [if_neg (fun z => cc z.1), if_neg (by omega)]; rfl
    · rw [if_neg (by omega), if_neg (by omega)]; rfl
    · rw [if_neg (by omega), if_neg (by omega)]; rfl
    · rw [if_neg (by omega), if_neg (by omega)]
      show tdN (if isC b then shlN a ((jV b).toNat % 64) else anyN) = (if isC b then tdN (shlN a ((jV b).toNat % 64)) else anyN)
      split
      · rfl
      · exact tdN_any
    · rw [if_neg (by omega), if_neg (by omega)]
      show tdN (if isC b then shrN a ((jV b).toNat % 64) else shrA a) = (if isC b then tdN (shrN a ((jV b).toNat % 64)) else tdN (shrA a))
      split <;> rfl
    · by_cases cc : isC a ∧ isC b
      · rw [if_pos ⟨cc, by omega⟩, tdN_cst]
        show _ = tdN (remN a b)
        rw [rem_c cc, tdN_cst]
        rfl
      · rw [if_neg (fun z => cc z.1), if_neg (by omega)]; rfl
    · rw [if_neg (by omega), if_neg (by omega)]; rfl
    · rw [if_neg (by omega), if_neg (by omega)]
      show tdN (if isC b then sarN a ((jV b).toNat % 64) else sarA a) = (if isC b then tdN (sarN a ((jV b).toNat % 64)) else tdN (sarA a))
      split <;> rfl
theorem cn_shl : cutT (tdN (cmbN 96 0 32 a b)) = cutT (opN 96 0 a (if ((96 : Int) = 96 ∨ (96 : Int) = 112) ∧ isC b then cstN (jV b &&& 31#64) else b)) := by
  have e1 : cmbN 96 0 32 a b = if isC b then shlN a ((jV b).toNat % 32) else anyN := rfl
  rw [e1, opN_shl]
  by_cases cb : isC b
  · have e2 : (if ((96 : Int) = 96 ∨ (96 : Int) = 112) ∧ isC b then cstN (jV b &&& 31#64) else b) = cstN (jV b &&& 31#64) := if_pos ⟨by decide, cb⟩
    rw [e2, if_pos cb, if_pos (show isC (cstN (jV b &&& 31#64)) from rfl), show jV (cstN (jV b &&& 31#64)) = jV b &&& 31#64 from rfl, and31, Nat.mod_eq_of_lt (show (jV b).toNat % 32 < 64 by omega)]
  · have e2 : (if ((96 : Int) = 96 ∨ (96 : Int) = 112) ∧ isC b then cstN (jV b &&& 31#64) else b) = b := if_neg (fun z => cb z.2)
    rw [e2, if_neg cb, if_neg cb, tdN_any]
theorem cn_shr : cutT (tdN (cmbN 112 0 32 a b)) = cutT (opN 112 0 a (if ((112 : Int) = 96 ∨ (112 : Int) = 112) ∧ isC b then cstN (jV b &&& 31#64) else b)) := by
  have e1 : cmbN 112 0 32 a b = if isC b then shrN a ((jV b).toNat % 32) else shrA a := rfl
  rw [e1, opN_shr]
  by_cases cb : isC b
  · have e2 : (if ((112 : Int) = 96 ∨ (112 : Int) = 112) ∧ isC b then cstN (jV b &&& 31#64) else b) = cstN (jV b &&& 31#64) := if_pos ⟨by decide, cb⟩
    rw [e2, if_pos cb, if_pos (show isC (cstN (jV b &&& 31#64)) from rfl), show jV (cstN (jV b &&& 31#64)) = jV b &&& 31#64 from rfl, and31, Nat.mod_eq_of_lt (show (jV b).toNat % 32 < 64 by omega)]
  · have e2 : (if ((112 : Int) = 96 ∨ (112 : Int) = 112) ∧ isC b then cstN (jV b &&& 31#64) else b) = b := if_neg (fun z => cb z.2)
    rw [e2, if_neg cb, if_neg cb]
theorem rA32 {x y : B64} : reckA 32 0 false x y = x * y := rfl
theorem rA48 {x y : B64} : reckA 48 0 false x y = x / y := rfl
theorem rA144 {x y : B64} : reckA 144 0 false x y = x % y := rfl
theorem cnE0 : tdN (cmbN 0 0 32 a b) = opN 0 0 a b := by
  have e1 : cmbN 0 0 32 a b = addN a b := by simp only [cmbN, Int.reduceEq, if_true, if_false, reduceIte]
  have e2 : opN 0 0 a b = tdN (addN a b) := by simp only [opN, Int.reduceEq, if_true, if_false, reduceIte, or_false, or_true, false_or]
  rw [e1, e2]
theorem cnE16 : tdN (cmbN 16 0 32 a b) = opN 16 0 a b := by
  have e1 : cmbN 16 0 32 a b = subN a b := by simp only [cmbN, Int.reduceEq, if_true, if_false, reduceIte]
  have e2 : opN 16 0 a b = tdN (subN a b) := by simp only [opN, Int.reduceEq, if_true, if_false, reduceIte, or_false, or_true, false_or]
  rw [e1, e2]
theorem cnE32 : tdN (cmbN 32 0 32 a b) = opN 32 0 a b := by
  have e1 : cmbN 32 0 32 a b = mulN a b := by simp only [cmbN, Int.reduceEq, if_true, if_false, reduceIte]
  have e2 : opN 32 0 a b = tdN (mulN a b) := by simp only [opN, Int.reduceEq, if_true, if_false, reduceIte, or_false, or_true, false_or]
  rw [e1, e2]
theorem cnE48 : tdN (cmbN 48 0 32 a b) = opN 48 0 a b := by
  have e1 : cmbN 48 0 32 a b = divN a b := by simp only [cmbN, Int.reduceEq, if_true, if_false, reduceIte]
  have e2 : opN 48 0 a b = tdN (divN a b) := by simp only [opN, Int.reduceEq, if_true, if_false, reduceIte, or_false, or_true, false_or]
  rw [e1, e2]
theorem cnE64 : tdN (cmbN 64 0 32 a b) = opN 64 0 a b := by
  have e1 : cmbN 64 0 32 a b = orN a b := by simp only [cmbN, Int.reduceEq, if_true, if_false, reduceIte]
  have e2 : opN 64 0 a b = tdN (orN a b) := by simp only [opN, Int.reduceEq, if_true, if_false, reduceIte, or_false, or_true, false_or]
  rw [e1, e2]
theorem cnE80 : tdN (cmbN 80 0 32 a b) = opN 80 0 a b := by
  have e1 : cmbN 80 0 32 a b = andN a b := by simp only [cmbN, Int.reduceEq, if_true, if_false, reduceIte]
  have e2 : opN 80 0 a b = tdN (andN a b) := by simp only [opN, Int.reduceEq, if_true, if_false, reduceIte, or_false, or_true, false_or]
  rw [e1, e2]
theorem cnE144 : tdN (cmbN 144 0 32 a b) = opN 144 0 a b := by
  have e1 : cmbN 144 0 32 a b = remN a b := by simp only [cmbN, Int.reduceEq, if_true, if_false, reduceIte]
  have e2 : opN 144 0 a b = tdN (remN a b) := by simp only [opN, Int.reduceEq, if_true, if_false, reduceIte, or_false, or_true, false_or]
  rw [e1, e2]
theorem cnE160 : tdN (cmbN 160 0 32 a b) = opN 160 0 a b := by
  have e1 : cmbN 160 0 32 a b = xorN a b := by simp only [cmbN, Int.reduceEq, if_true, if_false, reduceIte]
  have e2 : opN 160 0 a b = tdN (xorN a b) := by simp only [opN, Int.reduceEq, if_true, if_false, reduceIte, or_false, or_true, false_or]
  rw [e1, e2]
theorem cls_n (h4 : op % 8 = 4) (hc : okO (op / 16 * 16) off) (h0 : ¬ (op / 16 * 16 = 48 ∨ op / 16 * 16 = 144) → off = 0) : cutT (tdN (clsZ op off (cutT x) (cutT y))) = opW (op / 16 * 16) off x y := by
  have n176 : ¬ op / 16 * 16 = 176 := by
    rcases hc.1 with z | z | z | z | z | z | z | z | z | z | z <;> omega
  have n7 : ¬ op % 8 = 7 := by omega
  have tv : tolV op off (jV (cutT x)) (jV (cutT y)) = reckA (op / 16 * 16) off false (jV (cutT x)) (jV (cutT y)) &&& cF := by
    unfold tolV
    rw [if_neg n7, cut_m, cut_m]
  unfold clsZ opW
  simp only [tolC_n n176, tv, n7, if_false, tolQ, tolS, eq_true h4, and_true]
  clear tv
  generalize cutT x = a at *
  generalize cutT y = b at *
  generalize op / 16 * 16 = c at *
  by_cases s : off = 1 ∨ c = 192
  · have s' : c = 192 ∨ off = 1 := s.symm
    rw [if_pos s']
    by_cases cc : isC a ∧ isC b
    · rw [if_pos ⟨cc, Or.inl s⟩, if_pos cc, tdN_cst, cutT_cst, cF_cF]
      congr 2
      unfold reckA
      have n128 : ¬ c = 128 := by
        rcases hc.1 with z | z | z | z | z | z | z | z | z | z | z <;> omega
      rw [if_neg n128, if_neg n176]
    · rw [if_neg (fun z => cc z.1), if_pos s, if_neg cc, tdN_any, cutT_any]
  · have s' : ¬ (c = 192 ∨ off = 1) := fun z => s z.symm
    have o0 : off = 0 := by
      by_cases z : c = 48 ∨ c = 144
      · have := hc.2 z; omega
      · exact h0 z
    subst o0
    rw [if_neg s']
    rcases hc.1 with rfl | rfl | rfl | rfl | rfl | rfl | rfl | rfl | rfl | rfl | rfl
    · rw [if_neg (by omega), if_neg (by omega), if_neg (by omega)]; exact congrArg cutT cnE0
    · rw [if_neg (by omega), if_neg (by omega), if_neg (by omega)]; exact congrArg cutT cnE16
    · rw [if_neg (c := ((32 : Int) = 96 ∨ (32 : Int) = 112) ∧ isC b) (by omega)]
      by_cases cc : isC a ∧ isC b
      · rw [if_pos ⟨cc, by omega⟩, tdN_cst]
        show _ = cutT (tdN (mulN a b))
        rw [mul_c cc, tdN_cst, cutT_cst, cutT_cst, cF_cF]
        rw [rA32]
      · rw [if_neg (fun z => cc z.1), if_neg (by omega)]; exact congrArg cutT cnE32
    · rw [if_neg (c := ((48 : Int) = 96 ∨ (48 : Int) = 112) ∧ isC b) (by omega)]
      by_cases cc : isC a ∧ isC b
      · rw [if_pos ⟨cc, by omega⟩, tdN_cst]
        show _ = cutT (tdN (divN a b))
        rw [div_c cc, tdN_cst, cutT_cst, cutT_cst, cF_cF]
        rw [rA48]
      · rw [if_neg (fun z => cc z.1), if_neg (by omega)]; exact congrArg cutT cnE48
    · rw [if_neg (by omega), if_neg (by omega), if_neg (by omega)]; exact congrArg cutT cnE64
    · rw [if_neg (by omega), if_neg (by omega), if_neg (by omega)]; exact congrArg cutT cnE80
    · rw [if_neg (by omega), if_neg (by omega)]
      exact cn_shl
    · rw [if_neg (by omega), if_neg (by omega)]
      exact cn_shr
    · rw [if_neg (c := ((144 : Int) = 96 ∨ (144 : Int) = 112) ∧ isC b) (by omega)]
      by_cases cc : isC a ∧ isC b
      · rw [if_pos ⟨cc, by omega⟩, tdN_cst]
        show _ = cutT (tdN (remN a b))
        rw [rem_c cc, tdN_cst, cutT_cst, cutT_cst, cF_cF]
        rw [rA144]
      · rw [if_neg (fun z => cc z.1), if_neg (by omega)]; exact congrArg cutT cnE144
    · rw [if_neg (by omega), if_neg (by omega), if_neg (by omega)]; exact congrArg cutT cnE160
    · exact absurd (Or.inr rfl) s
theorem cls_m (hc : op / 16 * 16 = 176) (h0 : ¬ off = 1) : clsZ op off a b = if isC b then cstN (tolV op off (jV a) (jV b)) else sgnN off.toNat := by
  have s : ¬ tolS op off := by
    rintro (z | z)
    · exact h0 z
    · omega
  unfold clsZ
  by_cases cb : isC b
  · rw [if_pos cb, if_pos ⟨⟨Or.inr hc, cb⟩, Or.inr (Or.inl hc)⟩]
  · rw [if_neg cb, if_neg (fun z => cb z.1.2), if_neg s, hc]
    rfl
theorem cls_mw (h7 : op % 8 = 7) (hc : op / 16 * 16 = 176) (h0 : off = 8 ∨ off = 16 ∨ off = 32) : tdN (clsZ op off a b) = extN off.toNat b := by
  rw [cls_m hc (by omega)]
  unfold extN
  by_cases cb : isC b
  · rw [if_pos cb, if_pos cb, tdN_cst]
    unfold tolV
    rw [if_pos h7, hc]
    show cstN (if off = 0 then jV b else sxt off.toNat (jV b)) = _
    rw [if_neg (by omega)]
  · rw [if_neg cb, if_neg cb]
theorem cls_mn (h4 : op % 8 = 4) (hc : op / 16 * 16 = 176) (h0 : off = 8 ∨ off = 16 ∨ off = 32) : cutT (tdN (clsZ op off (cutT x) (cutT y))) = extW off.toNat (cutT y) := by
  rw [cls_m hc (by omega)]
  unfold extW
  by_cases cb : isC (cutT y)
  · rw [if_pos cb, if_pos cb, tdN_cst, cutT_cst]
    unfold tolV
    rw [if_neg (by omega), hc, cut_m, cut_m]
    show cstN ((if off = 0 then jV (cutT y) else sxt off.toNat (jV (cutT y))) &&& cF &&& cF) = _
    rw [if_neg (by omega), cF_cF]
  · rw [if_neg cb, if_neg cb]
/-- minus is 0 minus -/
theorem cls_g : clsZ (op % 16 + 16) 0 a b = if (op % 16 + 16) / 16 * 16 = 16 then subN a b else clsZ (op % 16 + 16) 0 a b := by
  have e : (op % 16 + 16) / 16 * 16 = 16 := by omega
  rw [if_pos e]
  unfold clsZ
  rw [if_neg (by
    rintro ⟨-, z⟩
    rcases z with z | z | z | z | z
    · rcases z with z | z
      · omega
      · omega
    · omega
    · omega
    · omega
    · omega), if_neg (by
    rintro (z | z)
    · omega
    · omega), e]
  rfl
end COP
/-! ===== the class's operate ===== -/
/-- only the Nums that Steps reckons with have changed -/
def nfq (τ σ : MS) : Prop := (∀ k s, gI τ k s = gI σ k s) ∧ (∀ k s, ¬ (42 ≤ k ∧ k ≤ 50) → gL τ k s = gL σ k s) ∧ τ.2.2 = σ.2.2
theorem nfq_r (σ : MS) : nfq σ σ := ⟨fun _ _ => rfl, fun _ _ _ => rfl, rfl⟩
theorem nfq_t {a b c : MS} (h1 : nfq a b) (h2 : nfq b c) : nfq a c := ⟨fun k s => (h1.1 k s).trans (h2.1 k s), fun k s p => (h1.2.1 k s p).trans (h2.2.1 k s p), h1.2.2.trans h2.2.2⟩
theorem nfq_w {σ : MS} {i : Nat} {n : N6} (h : 42 ≤ i ∧ i ≤ 50) : nfq (wC σ i n) σ := ⟨fun _ _ => rfl, fun k s p => gC_ne (by omega), rfl⟩
/-- what operate makes of two numbers -/
def resN (w : B64) (a b : N6) : N6 :=
  if fC w = 208 then trnN (decide (fOp w = 212)) (fI w).toNat a
  else if fC w = 128 then (if wid w then negN a else cutT (negN (cutT a)))
  else if fC w = 176 then vn (movV w (numV b)).2
  else if wid w then opN (fC w) (fO w) a b else opW (fC w) (fO w) a b
section COPT
variable {σ : MS} {w : B64} {x y a b : N6} {op off : Int} {i j : Nat}
/-- makeTold, combine, tidy, cut: from block 174 on -/
theorem L249 (h0 : 0 ≤ op) (h1 : op < 256) (hij : (i = 42 ∧ j = 43) ∨ (i = 45 ∧ j = 46)) (ri : rC σ i = a) (rj : rC σ j = b) (hc : okC (op / 16 * 16) off) (n128 : ¬ op / 16 * 16 = 128) (wd : wid w ∨ ¬ wid w) (hm : op / 16 * 16 = 176 → 1 ≤ off ∧ off ≤ 64) :
    okc (RR (lkB tb249) (B249_174, [some (mR (some 40)), some (mI (fC w)), some (mI (b2 (wid w))), some (mI op), some (mI off), some (mR (some i)), some (mR (some j))], [], σ)) none (fun τ => rC τ 44 = (if wid w then tdN (clsZ op off a b) else cutT (tdN (clsZ op off a b))) ∧ nfq τ σ) := by
  have ki : isNm σ i := by rcases hij with ⟨e, -⟩ | ⟨e, -⟩ <;> subst e <;> rfl
  have kj : isNm σ j := by rcases hij with ⟨-, e⟩ | ⟨-, e⟩ <;> subst e <;> rfl
  have ni : ¬ i = 44 := by omega
  have nj : ¬ j = 44 := by omega
  have t76 := T76 (σ := σ) (k := 44) (j := i) (i := j) h0 h1 (kc_44 σ) ki kj hc
  rw [ri, rj] at t76
  have s205 : MM 249 [] σ = MM 249 [] σ → RR (lkB tb249) (B249_174, [some (mR (some 40)), some (mI (fC w)), some (mI (b2 (wid w))), some (mI op), some (mI off), some (mR (some i)), some (mR (some j))], [], σ) = RR (lkB tb249) (B249_205, [some (mR (some 40)), some (mI (fC w)), some (mI (b2 (wid w))), some (mI op), some (mI off), some (mR (some i)), some (mR (some j))], [], wC σ 44 (clsZ op off a b)) := fun _ => by
    by_cases P : tolC op a b ∧ tolQ op off
    · rw [if_pos P, b2_yes (Or.inl P)] at t76
      have z : clsZ op off a b = cstN (tolV op off (jV a) (jV b)) := if_pos P
      rw [z]
      simp only [e249_174, e249_188, Option.getD_some, Option.bind_some, Option.toList_some, Option.toList_none, List.cons_append, List.nil_append, and_self, and_true, true_and, false_and, and_false, ite_self, not_true_eq_false, not_false_eq_true, reduceIte, Nat.reduceEqDiff, ab_I, ab_L, ab_R, ao_I, ao_L, ao_R, gL_sL, gI_sI, gR_sR, gI_sL, gI_sR, gL_sI, gL_sR, gR_sI, gR_sL, t76, oneI]
    · by_cases Q : tolS op off
      · rw [if_neg P, if_pos Q, b2_yes (Or.inr Q)] at t76
        have z : clsZ op off a b = anyN := (if_neg P).trans (if_pos Q)
        rw [z]
        simp only [e249_174, e249_188, Option.getD_some, Option.bind_some, Option.toList_some, Option.toList_none, List.cons_append, List.nil_append, and_self, and_true, true_and, false_and, and_false, ite_self, not_true_eq_false, not_false_eq_true, reduceIte, Nat.reduceEqDiff, ab_I, ab_L, ab_R, ao_I, ao_L, ao_R, gL_sL, gI_sI, gR_sR, gI_sL, gI_sR, gL_sI, gL_sR, gR_sI, gR_sL, t76, oneI]
      · rw [if_neg P, if_neg Q, b2_no (fun z => z.elim P Q)] at t76
        have z : clsZ op off a b = cmbN (op / 16 * 16) off (if op % 8 = 7 then 64 else 32) a b := (if_neg P).trans (if_neg Q)
        have hc' : op / 16 * 16 = 0 ∨ op / 16 * 16 = 16 ∨ op / 16 * 16 = 32 ∨ op / 16 * 16 = 48 ∨ op / 16 * 16 = 64 ∨ op / 16 * 16 = 80 ∨ op / 16 * 16 = 96 ∨ op / 16 * 16 = 112 ∨ op / 16 * 16 = 144 ∨ op / 16 * 16 = 160 ∨ op / 16 * 16 = 176 ∨ op / 16 * 16 = 192 := by
          rcases hc.1 with q | q | q | q | q | q | q | q | q | q | q | q | q <;> omega
        have t77 := T77 (σ := σ) (k := 44) (j := i) (i := j) (off := off) h0 h1 rfl (kc_44 σ) ki kj ni nj hc' (fun q => by
          rw [ri, rj]
          intro cc
          refine P ⟨⟨Or.inl cc.1, cc.2⟩, ?_⟩
          rcases q with q | q | q
          · exact Or.inr (Or.inr (Or.inl q))
          · exact Or.inr (Or.inr (Or.inr (Or.inl q)))
          · exact Or.inr (Or.inr (Or.inr (Or.inr q)))) hm
        rw [ri, rj] at t77
        rw [z]
        simp only [e249_174, e249_188, Option.getD_some, Option.bind_some, Option.toList_some, Option.toList_none, List.cons_append, List.nil_append, and_self, and_true, true_and, false_and, and_false, ite_self, not_true_eq_false, not_false_eq_true, reduceIte, Nat.reduceEqDiff, ab_I, ab_L, ab_R, ao_I, ao_L, ao_R, gL_sL, gI_sI, gR_sR, gI_sL, gI_sR, gL_sI, gL_sR, gR_sI, gR_sL, t76, t77]
  rw [s205 rfl]
  generalize clsZ op off a b = z
  have t73 := T73n (σ := σ) (k := 44) (n := z) (kc_44 σ)
  by_cases w7 : wid w
  · rw [b2_yes w7, if_pos w7]
    simp only [e249_205, e249_212, e249_213, e249_239, Option.getD_some, Option.bind_some, Option.toList_some, Option.toList_none, List.cons_append, List.nil_append, and_self, and_true, true_and, false_and, and_false, ite_self, not_true_eq_false, not_false_eq_true, reduceIte, Nat.reduceEqDiff, ab_I, ab_L, ab_R, ao_I, ao_L, ao_R, gL_sL, gI_sI, gR_sR, gI_sL, gI_sR, gL_sI, gL_sR, gR_sI, gR_sL, t73, oneI]
    exact okc_s ⟨by rw [rC_wC, if_pos rfl], nfq_w (by omega)⟩
  · rw [b2_no w7, if_neg w7]
    have t75 := T75 (σ := wC σ 44 (tdN z)) (k := 42) (j := 44) (kc_42 _) (kc_44 _) (by decide)
    rw [rC_wC, if_pos rfl] at t75
    have t66 := T66 (σ := wC (wC σ 44 (tdN z)) 42 (cutT (tdN z))) (k := 44) (j := 42) (kc_44 _) (kc_42 _) (by decide)
    rw [rC_wC, if_pos rfl] at t66
    simp only [e249_205, e249_212, e249_213, e249_228, e249_239, Option.getD_some, Option.bind_some, Option.toList_some, Option.toList_none, List.cons_append, List.nil_append, and_self, and_true, true_and, false_and, and_false, ite_self, not_true_eq_false, not_false_eq_true, reduceIte, Nat.reduceEqDiff, ab_I, ab_L, ab_R, ao_I, ao_L, ao_R, gL_sL, gI_sI, gR_sR, gI_sL, gI_sR, gL_sI, gL_sR, gR_sI, gR_sL, t73, t75, t66]
    exact okc_s ⟨by rw [rC_wC, if_pos rfl], nfq_t (nfq_w (by omega)) (nfq_t (nfq_w (by omega)) (nfq_w (by omega)))⟩
theorem iOr16 : ∀ op : Fin 256, iOr (iAnd (op.val : Int) 15) 16 = (op.val : Int) % 16 + 16 := by decide +kernel
theorem iOr16' {op : Int} (h0 : 0 ≤ op) (h1 : op < 256) : iOr (iAnd op 15) 16 = op % 16 + 16 := by
  obtain ⟨n, hn⟩ : ∃ n : Nat, op = (n : Int) := ⟨op.toNat, by omega⟩
  subst hn
  exact iOr16 ⟨n, by omega⟩
theorem T249 (hw : okAlu w) (hl : fL w = 4 ∨ fL w = 7) (g6 : gL σ 40 6 = w) (g7 : gI σ 40 7 = fOp w) (ra : rC σ 42 = a) (rb : rC σ 43 = b) : okc (MM 249 [mR (some 40), mI (fC w), mI (b2 (wid w))] σ) none (fun τ => rC τ 44 = resN w a b ∧ nfq τ σ) := by
  have fr := fld_rng w
  have f1 := fr.1
  have eC : fC w = fOp w / 16 * 16 := rfl
  have eL : fL w = fOp w % 8 := rfl
  unfold resN
  obtain ⟨⟨hd, hc8⟩, hw⟩ := hw
  by_cases c208 : fC w = 208
  · rw [if_pos c208]
    rw [if_pos c208] at hw
    have t90 := T90 (σ := σ) (k := 44) (j := 42) (op := fOp w) (b := fI w) (kc_44 σ) (kc_42 σ) hw.2.2.2
    rw [ra] at t90
    simp only [M249, e249_0, e249_22, e249_29, Option.getD_some, Option.bind_some, Option.toList_some, Option.toList_none, List.cons_append, List.nil_append, and_self, and_true, true_and, false_and, and_false, ite_self, not_true_eq_false, not_false_eq_true, reduceIte, Nat.reduceEqDiff, ab_I, ab_L, ab_R, ao_I, ao_L, ao_R, gL_sL, gI_sI, gR_sR, gI_sL, gI_sR, gL_sI, gL_sR, gR_sI, gR_sL, c208, g6, g7, T4, aoN (kc_44 _), t90]
    exact okc_s ⟨by rw [rC_wC, if_pos rfl], nfq_w (by omega)⟩
  · rw [if_neg c208]
    rw [if_neg c208] at hw
    by_cases c128 : fC w = 128
    · rw [if_pos c128]
      rw [if_pos c128] at hw
      have o0 : fO w = 0 := hw.2.2.1
      have t66 := T66 (σ := σ) (k := 43) (j := 42) (kc_43 σ) (kc_42 σ) (by decide)
      rw [ra] at t66
      have t61 := T61 (σ := wC σ 43 a) (k := 42) (x1 := BitVec.ofNat 64 0) (kc_42 _)
      have io := iOr16' f1.1 f1.2
      have g6' : ∀ n m : N6, gL (wC (wC σ 43 n) 42 m) 40 6 = w := fun n m => by rw [gC_ne (by decide), gC_ne (by decide), g6]
      have g7' : ∀ n m : N6, gI (wC (wC σ 43 n) 42 m) 40 7 = fOp w := fun n m => g7
      have op1 : (fOp w % 16 + 16) / 16 * 16 = 16 := by omega
      have cz : ∀ p q : N6, clsZ (fOp w % 16 + 16) 0 p q = subN p q := fun p q => by rw [cls_g, if_pos op1]
      have hok : okC ((fOp w % 16 + 16) / 16 * 16) 0 := by
        rw [op1]
        exact ⟨by omega, fun _ => Or.inl rfl, fun _ => Or.inl rfl⟩
      by_cases w7 : wid w
      · rw [if_pos w7]
        have l := L249 (σ := wC (wC σ 43 a) 42 (cstN 0#64)) (w := w) (op := fOp w % 16 + 16) (off := 0) (i := 42) (j := 43) (a := cstN 0#64) (b := a) (by omega) (by omega) (Or.inl ⟨rfl, rfl⟩) (by rw [rC_wC, if_pos rfl]) (by rw [rC_wC, if_neg (by decide), rC_wC, if_pos rfl]) hok (by omega) (Or.inl w7) (by omega)
        rw [cz, if_pos w7] at l
        have l := okc_m l (P := fun τ => rC τ 44 = negN a ∧ nfq τ σ) fun τ q => ⟨q.1, nfq_t q.2 (nfq_t (nfq_w (by omega)) (nfq_w (by omega)))⟩
        rw [b2_yes w7] at l ⊢
        simp only [M249, e249_0, e249_48, e249_56, e249_80, e249_88, e249_116, e249_131, e249_148, Option.getD_some, Option.bind_some, Option.toList_some, Option.toList_none, List.cons_append, List.nil_append, and_self, and_true, true_and, false_and, and_false, ite_self, not_true_eq_false, not_false_eq_true, reduceIte, Nat.reduceEqDiff, ab_I, ab_L, ab_R, ao_I, ao_L, ao_R, gL_sL, gI_sI, gR_sR, gI_sL, gI_sR, gL_sI, gL_sR, gR_sI, gR_sL, c208, c128, Int.reduceEq, t66, t61, g6', g7', io, T3, o0]
        rw [c128] at l
        exact l
      · rw [if_neg w7]
        have t75 := T75 (σ := wC (wC σ 43 a) 42 (cstN 0#64)) (k := 45) (j := 42) (kc_45 _) (kc_42 _) (by decide)
        rw [rC_wC, if_pos rfl] at t75
        have t75b := T75 (σ := wC (wC (wC σ 43 a) 42 (cstN 0#64)) 45 (cutT (cstN 0#64))) (k := 46) (j := 43) (kc_46 _) (kc_43 _) (by decide)
        rw [rC_wC, if_neg (by decide), rC_wC, if_neg (by decide), rC_wC, if_pos rfl] at t75b
        have l := L249 (σ := wC (wC (wC (wC σ 43 a) 42 (cstN 0#64)) 45 (cutT (cstN 0#64))) 46 (cutT a)) (w := w) (op := fOp w % 16 + 16) (off := 0) (i := 45) (j := 46) (a := cutT (cstN 0#64)) (b := cutT a) (by omega) (by omega) (Or.inr ⟨rfl, rfl⟩) (by rw [rC_wC, if_neg (by decide), rC_wC, if_pos rfl]) (by rw [rC_wC, if_pos rfl]) hok (by omega) (Or.inr w7) (by omega)
        have z0 : cutT (cstN 0#64) = cstN 0#64 := by
          rw [cutT_cst]
          rfl
        rw [cz, if_neg w7, z0] at l
        have l := okc_m l (P := fun τ => rC τ 44 = cutT (negN (cutT a)) ∧ nfq τ σ) fun τ q => ⟨q.1, nfq_t q.2 (nfq_t (nfq_w (by omega)) (nfq_t (nfq_w (by omega)) (nfq_t (nfq_w (by omega)) (nfq_w (by omega)))))⟩
        rw [b2_no w7] at l ⊢
        rw [z0] at t75 t75b
        simp only [M249, e249_0, e249_48, e249_56, e249_80, e249_88, e249_105, e249_116, e249_131, e249_148, Option.getD_some, Option.bind_some, Option.toList_some, Option.toList_none, List.cons_append, List.nil_append, and_self, and_true, true_and, false_and, and_false, ite_self, not_true_eq_false, not_false_eq_true, reduceIte, Nat.reduceEqDiff, ab_I, ab_L, ab_R, ao_I, ao_L, ao_R, gL_sL, gI_sI, gR_sR, gI_sL, gI_sR, gL_sI, gL_sR, gR_sI, gR_sL, c208, c128, Int.reduceEq, t66, t61, g6', g7', io, T3, o0, t75, t75b]
        rw [c128] at l
        exact l
    · rw [if_neg c128]
      rw [if_neg c128] at hw
      obtain ⟨hS, hO, hZ, hH⟩ := hw
      have oc : okC (fOp w / 16 * 16) (fO w) := by
        refine ⟨by omega, fun z => ?_, fun z => ?_⟩
        · rcases hO with q | q | q
          · exact Or.inl q
          · exact Or.inr q.2
          · omega
        · rcases hO with q | q | q
          · exact Or.inl q
          · have := q.1; omega
          · omega
      by_cases m0 : fC w = 176 ∧ fO w = 0
      · obtain ⟨c176, o0⟩ := m0
        rw [if_pos c176]
        by_cases w7 : wid w
        · have e : vn (movV w (numV b)).2 = b := by
            unfold movV
            rw [if_pos ⟨w7, o0⟩]
            rfl
          rw [e]
          have t66 := T66 (σ := σ) (k := 44) (j := 43) (kc_44 σ) (kc_43 σ) (by decide)
          rw [rb] at t66
          rw [b2_yes w7]
          simp only [M249, e249_0, e249_56, e249_80, e249_88, e249_116, e249_131, e249_148, e249_171, e249_213, e249_239, Option.getD_some, Option.bind_some, Option.toList_some, Option.toList_none, List.cons_append, List.nil_append, and_self, and_true, true_and, false_and, and_false, ite_self, not_true_eq_false, not_false_eq_true, reduceIte, Nat.reduceEqDiff, ab_I, ab_L, ab_R, ao_I, ao_L, ao_R, gL_sL, gI_sI, gR_sR, gI_sL, gI_sR, gL_sI, gL_sR, gR_sI, gR_sL, c176, Int.reduceEq, g6, g7, T3, o0, t66]
          exact okc_s ⟨by rw [rC_wC, if_pos rfl], nfq_w (by omega)⟩
        · have e : vn (movV w (numV b)).2 = cutT (cutT b) := by
            unfold movV
            rw [if_neg (fun z => w7 z.1), if_neg (not_not_intro (show wntN (numV b) (numV b) = 0 from rfl)), if_pos o0]
            rfl
          rw [e]
          have t75 := T75 (σ := σ) (k := 45) (j := 42) (kc_45 _) (kc_42 _) (by decide)
          have t75b := T75 (σ := wC σ 45 (cutT (rC σ 42))) (k := 46) (j := 43) (kc_46 _) (kc_43 _) (by decide)
          rw [rC_wC, if_neg (by decide), rb] at t75b
          have t66 := T66 (σ := wC (wC σ 45 (cutT (rC σ 42))) 46 (cutT b)) (k := 44) (j := 46) (kc_44 _) (kc_46 _) (by decide)
          rw [rC_wC, if_pos rfl] at t66
          have t75c := T75 (σ := wC (wC (wC σ 45 (cutT (rC σ 42))) 46 (cutT b)) 44 (cutT b)) (k := 42) (j := 44) (kc_42 _) (kc_44 _) (by decide)
          rw [rC_wC, if_pos rfl] at t75c
          have t66b := T66 (σ := wC (wC (wC (wC σ 45 (cutT (rC σ 42))) 46 (cutT b)) 44 (cutT b)) 42 (cutT (cutT b))) (k := 44) (j := 42) (kc_44 _) (kc_42 _) (by decide)
          rw [rC_wC, if_pos rfl] at t66b
          rw [b2_no w7]
          simp only [M249, e249_0, e249_56, e249_80, e249_88, e249_105, e249_116, e249_131, e249_148, e249_171, e249_213, e249_228, e249_239, Option.getD_some, Option.bind_some, Option.toList_some, Option.toList_none, List.cons_append, List.nil_append, and_self, and_true, true_and, false_and, and_false, ite_self, not_true_eq_false, not_false_eq_true, reduceIte, Nat.reduceEqDiff, ab_I, ab_L, ab_R, ao_I, ao_L, ao_R, gL_sL, gI_sI, gR_sR, gI_sL, gI_sR, gL_sI, gL_sR, gR_sI, gR_sL, c176, Int.reduceEq, g6, g7, T3, o0, t75, t75b, t66, t75c, t66b]
          exact okc_s ⟨by rw [rC_wC, if_pos rfl], nfq_t (nfq_w (by omega)) (nfq_t (nfq_w (by omega)) (nfq_t (nfq_w (by omega)) (nfq_t (nfq_w (by omega)) (nfq_w (by omega)))))⟩
      · have hm : fOp w / 16 * 16 = 176 → 1 ≤ fO w ∧ fO w ≤ 64 := fun z => by
          have : ¬ fO w = 0 := fun q => m0 ⟨z, q⟩
          rcases hO with q | q | q
          · exact absurd q this
          · have := q.1; omega
          · omega
        have okw : ¬ fC w = 176 → okO (fOp w / 16 * 16) (fO w) := fun z => ⟨by
          have := oc.1
          omega, oc.2.1⟩
        have o0 : ¬ fC w = 176 → ¬ (fOp w / 16 * 16 = 48 ∨ fOp w / 16 * 16 = 144) → fO w = 0 := fun z z2 => by
          rcases hO with q | q | q
          · exact q
          · exact absurd q.1 z2
          · exact absurd q.1.1 z
        by_cases w7 : wid w
        · have l := L249 (σ := σ) (w := w) (op := fOp w) (off := fO w) (i := 42) (j := 43) (a := a) (b := b) (by omega) (by omega) (Or.inl ⟨rfl, rfl⟩) ra rb oc c128 (Or.inl w7) hm
          rw [if_pos w7] at l
          have e : (if fC w = 176 then vn (movV w (numV b)).2 else if wid w then opN (fC w) (fO w) a b else opW (fC w) (fO w) a b) = tdN (clsZ (fOp w) (fO w) a b) := by
            by_cases c176 : fC w = 176
            · have no : ¬ fO w = 0 := fun q => m0 ⟨c176, q⟩
              rw [if_pos c176, cls_mw w7 c176 (by rcases oc.2.2 c176 with q | q | q | q <;> omega)]
              unfold movV
              rw [if_neg (fun z => no z.2), if_neg (not_not_intro (show wntN (numV b) (numV b) = 0 from rfl)), if_neg no, if_pos w7]
              rfl
            · rw [if_neg c176, if_pos w7]
              exact (cls_w w7 (okw c176) (o0 c176)).symm
          rw [e]
          rw [b2_yes w7] at l ⊢
          by_cases c176 : fC w = 176
          · have no : ¬ fO w = 0 := fun q => m0 ⟨c176, q⟩
            rw [c176] at l
            simp only [M249, e249_0, e249_56, e249_80, e249_88, e249_116, e249_131, e249_148, Option.getD_some, Option.bind_some, Option.toList_some, Option.toList_none, List.cons_append, List.nil_append, and_self, and_true, true_and, false_and, and_false, ite_self, not_true_eq_false, not_false_eq_true, reduceIte, Nat.reduceEqDiff, ab_I, ab_L, ab_R, ao_I, ao_L, ao_R, gL_sL, gI_sI, gR_sR, gI_sL, gI_sR, gL_sI, gL_sR, gR_sI, gR_sL, c176, Int.reduceEq, g6, g7, T3, no]
            exact l
          · simp only [M249, e249_0, e249_56, e249_80, e249_88, e249_116, e249_131, e249_148, Option.getD_some, Option.bind_some, Option.toList_some, Option.toList_none, List.cons_append, List.nil_append, and_self, and_true, true_and, false_and, and_false, ite_self, not_true_eq_false, not_false_eq_true, reduceIte, Nat.reduceEqDiff, ab_I, ab_L, ab_R, ao_I, ao_L, ao_R, gL_sL, gI_sI, gR_sR, gI_sL, gI_sR, gL_sI, gL_sR, gR_sI, gR_sL, c208, c128, c176, Int.reduceEq, g6, g7, T3]
            exact l
        · have t75 := T75 (σ := σ) (k := 45) (j := 42) (kc_45 _) (kc_42 _) (by decide)
          rw [ra] at t75
          have t75b := T75 (σ := wC σ 45 (cutT a)) (k := 46) (j := 43) (kc_46 _) (kc_43 _) (by decide)
          rw [rC_wC, if_neg (by decide), rb] at t75b
          have l := L249 (σ := wC (wC σ 45 (cutT a)) 46 (cutT b)) (w := w) (op := fOp w) (off := fO w) (i := 45) (j := 46) (a := cutT a) (b := cutT b) (by omega) (by omega) (Or.inr ⟨rfl, rfl⟩) (by rw [rC_wC, if_neg (by decide), rC_wC, if_pos rfl]) (by rw [rC_wC, if_pos rfl]) oc c128 (Or.inr w7) hm
          rw [if_neg w7] at l
          have e4 : fOp w % 8 = 4 := by
            have w7 : ¬ fL w = 7 := w7
            omega
          have e : (if fC w = 176 then vn (movV w (numV b)).2 else if wid w then opN (fC w) (fO w) a b else opW (fC w) (fO w) a b) = cutT (tdN (clsZ (fOp w) (fO w) (cutT a) (cutT b))) := by
            by_cases c176 : fC w = 176
            · have no : ¬ fO w = 0 := fun q => m0 ⟨c176, q⟩
              rw [if_pos c176, cls_mn e4 c176 (by rcases oc.2.2 c176 with q | q | q | q <;> omega)]
              unfold movV
              rw [if_neg (fun z => no z.2), if_neg (not_not_intro (show wntN (numV b) (numV b) = 0 from rfl)), if_neg no, if_neg w7]
              rfl
            · rw [if_neg c176, if_neg w7]
              exact (cls_n e4 (okw c176) (o0 c176)).symm
          rw [e]
          have l := okc_m l (P := fun τ => rC τ 44 = cutT (tdN (clsZ (fOp w) (fO w) (cutT a) (cutT b))) ∧ nfq τ σ) fun τ q => ⟨q.1, nfq_t q.2 (nfq_t (nfq_w (by omega)) (nfq_w (by omega)))⟩
          rw [b2_no w7] at l ⊢
          by_cases c176 : fC w = 176
          · have no : ¬ fO w = 0 := fun q => m0 ⟨c176, q⟩
            rw [c176] at l
            simp only [M249, e249_0, e249_56, e249_80, e249_88, e249_105, e249_116, e249_131, e249_148, Option.getD_some, Option.bind_some, Option.toList_some, Option.toList_none, List.cons_append, List.nil_append, and_self, and_true, true_and, false_and, and_false, ite_self, not_true_eq_false, not_false_eq_true, reduceIte, Nat.reduceEqDiff, ab_I, ab_L, ab_R, ao_I, ao_L, ao_R, gL_sL, gI_sI, gR_sR, gI_sL, gI_sR, gL_sI, gL_sR, gR_sI, gR_sL, c176, Int.reduceEq, g6, g7, T3, no, t75, t75b]
            exact l
          · simp only [M249, e249_0, e249_56, e249_80, e249_88, e249_105, e249_116, e249_131, e249_148, Option.getD_some, Option.bind_some, Option.toList_some, Option.toList_none, List.cons_append, List.nil_append, and_self, and_true, true_and, false_and, and_false, ite_self, not_true_eq_false, not_false_eq_true, reduceIte, Nat.reduceEqDiff, ab_I, ab_L, ab_R, ao_I, ao_L, ao_R, gL_sL, gI_sI, gR_sR, gI_sL, gI_sR, gL_sI, gL_sR, gR_sI, gR_sL, c208, c128, c176, Int.reduceEq, g6, g7, T3, t75, t75b]
            exact l
end COPT
-- FILE 84.cctx
/-! ===== the class's Steps: what it stands on ===== -/
abbrev stC (k : Nat) : Prop := k = 62 ∨ k = 66 ∨ 153 ≤ k
/-- the class's maps -/
def CEO (σ : MS) (E : EV) : Prop := ∀ m, m < 8 → gI σ 31 m = E.2.1 m ∧ gI σ 32 m = E.2.2 m ∧ (gI σ 29 m = 0 → E.1 m < 0) ∧ (¬ gI σ 29 m = 0 → E.1 m = gI σ 30 m ∧ 0 ≤ E.1 m)
/-- here at cell k, other at cell j, the word w -/
def SC (σ : MS) (k j : Nat) (E : EV) (w : B64) : Prop := ((isSt σ k ∧ isSt σ j) ∧ (k + 3 < j ∨ j + 3 < k) ∧ stC k ∧ stC j) ∧ (gR σ 40 1 = some k ∧ gR σ 40 2 = some j) ∧ (gL σ 40 6 = w ∧ gI σ 40 7 = fOp w) ∧ CEO σ E ∧ rC σ 41 = cstN 0#64
/-- what an instruction may change -/
def sfq (τ σ : MS) (k j : Nat) : Prop :=
  (∀ k' s, ¬ (k' = 40 ∧ (s = 3 ∨ s = 4 ∨ s = 5 ∨ s = 8)) → ¬ ((k' = k ∧ (s = 3 ∨ s = 4)) ∨ k' = k + 1 + 1 ∨ k' = k + 1 + 2) → ¬ (j ≤ k' ∧ k' ≤ j + 3) → gI τ k' s = gI σ k' s)
  ∧ (∀ k' s, ¬ (42 ≤ k' ∧ k' ≤ 50) → ¬ k' = k + 1 + 0 → ¬ k' = j + 1 + 0 → gL τ k' s = gL σ k' s)
  ∧ (∀ k' s, ¬ (k' = j ∧ s = 6) → gR τ k' s = gR σ k' s) ∧ τ.2.2.2 = σ.2.2.2
/-- what is so of a STATE -/
def PX (S : ST) (E : EV) (t : Int) : Prop := okS E t S ∧ canS S ∧ xS S ∧ t < 1000000
abbrev pR (S : ST) (r : Nat) : Nat := 297 * (sF S - 1) + 11 * r
section CTX
variable {a b c τ σ : MS} {k j : Nat} {E : EV} {w : B64} {S : ST} {t : Int} {v : VL}
theorem kd_r3 (h : τ.2.2.2 = σ.2.2.2) (k : Nat) : kd τ k = kd σ k := by
  unfold kd
  rw [h]
theorem st_r3 (h : τ.2.2.2 = σ.2.2.2) (q : isSt σ k) : isSt τ k := by
  unfold isSt at *
  rw [kd_r3 h, kd_r3 h, kd_r3 h, kd_r3 h]
  exact q
theorem sfq_r (σ : MS) (k j : Nat) : sfq σ σ k j := ⟨fun _ _ _ _ _ => rfl, fun _ _ _ _ _ => rfl, fun _ _ _ => rfl, rfl⟩
theorem sfq_t (h1 : sfq a b k j) (h2 : sfq b c k j) : sfq a c k j := ⟨fun k' s p q r => (h1.1 k' s p q r).trans (h2.1 k' s p q r), fun k' s p q r => (h1.2.1 k' s p q r).trans (h2.2.1 k' s p q r), fun k' s p => (h1.2.2.1 k' s p).trans (h2.2.2.1 k' s p), h1.2.2.2.trans h2.2.2.2⟩
theorem gR_r {k' s : Nat} (h : τ.2.2 = σ.2.2) : gR τ k' s = gR σ k' s := by
  unfold gR
  rw [h]
theorem sfq_s (h : csq τ σ k) : sfq τ σ k j := ⟨fun k' s _ q _ => h.1 k' s (fun z => q (Or.inl z)) (fun z => q (Or.inr (Or.inl z))) (fun z => q (Or.inr (Or.inr z))), fun k' s _ q _ => h.2.1 k' s q, fun k' s _ => gR_r h.2.2, by rw [h.2.2]⟩
theorem sfq_c (h : crq τ σ k) : sfq τ σ k j := sfq_s (csq_c h)
theorem sfq_v {pl : Nat} (h : cxV τ σ k pl v) : sfq τ σ k j := sfq_c (crq_c h)
theorem sfq_n (h : nfq τ σ) : sfq τ σ k j := ⟨fun k' s _ _ _ => h.1 k' s, fun k' s p _ _ => h.2.1 k' s p, fun k' s _ => gR_r h.2.2, by rw [h.2.2]⟩
theorem sfq_i {s : Nat} {x : Int} (h : s = 3 ∨ s = 4 ∨ s = 5 ∨ s = 8) : sfq (sI σ 40 s x) σ k j := ⟨fun k' s' p _ _ => by
  rw [gI_sI, if_neg]
  intro z
  exact p ⟨z.1, by rw [z.2]; exact h⟩, fun _ _ _ _ _ => rfl, fun _ _ _ => rfl, rfl⟩
theorem SC_q (h : sfq τ σ k j) (H : SC σ k j E w) : SC τ k j E w := by
  obtain ⟨⟨⟨i1, i2⟩, d, s1, s2⟩, ⟨r1, r2⟩, ⟨g1, g2⟩, m, z⟩ := H
  refine ⟨⟨⟨st_r3 h.2.2.2 i1, st_r3 h.2.2.2 i2⟩, d, s1, s2⟩, ⟨(h.2.2.1 _ _ (by omega)).trans r1, (h.2.2.1 _ _ (by omega)).trans r2⟩, ⟨(h.2.1 _ _ (by omega) (by omega) (by omega)).trans g1, (h.1 _ _ (by omega) (by omega) (by omega)).trans g2⟩, fun i hi => ?_, ?_⟩
  · rw [h.1 31 i (by omega) (by omega) (by omega), h.1 32 i (by omega) (by omega) (by omega), h.1 29 i (by omega) (by omega) (by omega), h.1 30 i (by omega) (by omega) (by omega)]
    exact m i hi
  · rw [← z]
    have g : ∀ s, gL τ 41 s = gL σ 41 s := fun s => h.2.1 _ _ (by omega) (by omega) (by omega)
    unfold rC
    rw [g, g, g, g, g, g]
theorem SC_n (h : nfq τ σ) (H : SC σ k j E w) : SC τ k j E w := SC_q (sfq_n h) H
theorem CSt_q (hi : ∀ s, gI τ k s = gI σ k s) (h1 : ∀ s, gI τ (k + 1 + 1) s = gI σ (k + 1 + 1) s) (h2 : ∀ s, gI τ (k + 1 + 2) s = gI σ (k + 1 + 2) s) (hl : ∀ s, gL τ (k + 1 + 0) s = gL σ (k + 1 + 0) s) (h : CSt σ k S) : CSt τ k S := by
  obtain ⟨⟨f3, f4⟩, v1, v2, v3, v4, v5⟩ := h
  refine ⟨⟨(hi _).trans f3, (hi _).trans f4⟩, fun f r hf hr i q => (hl _).trans (v1 f r hf hr i q), fun f hf i q => (hl _).trans (v2 f hf i q), fun f q hf hq i p => (hl _).trans (v3 f q hf hq i p), fun f p q => (h1 _).trans (v4 f p q), fun i hi => (h2 _).trans (v5 i hi)⟩
theorem CSt_n (hk : stC k) (h : nfq τ σ) (c : CSt σ k S) : CSt τ k S := CSt_q (fun s => h.1 _ _) (fun s => h.1 _ _) (fun s => h.1 _ _) (fun s => h.2.1 _ _ (by omega)) c
theorem CSt_i {s : Nat} {x : Int} (hk : stC k) (c : CSt σ k S) : CSt (sI σ 40 s x) k S := CSt_q (σ := σ) (τ := sI σ 40 s x) (fun s => by rw [gI_sI, if_neg (by omega)]) (fun s => by rw [gI_sI, if_neg (by omega)]) (fun s => by rw [gI_sI, if_neg (by omega)]) (fun s => rfl) c
/-! the first askings -/
theorem sc_h (H : SC σ k j E w) : gR σ 40 1 = some k := H.2.1.1
theorem sc_o (H : SC σ k j E w) : gR σ 40 2 = some j := H.2.1.2
theorem sc_w (H : SC σ k j E w) : gL σ 40 6 = w := H.2.2.1.1
theorem sc_p (H : SC σ k j E w) : gI σ 40 7 = fOp w := H.2.2.1.2
theorem sc_k (H : SC σ k j E w) : isSt σ k := H.1.1.1
theorem sc_j (H : SC σ k j E w) : isSt σ j := H.1.1.2
theorem sc_ao (H : SC σ k j E w) : ao σ 8 (some k) = True := aoS (sc_k H)
theorem sc_c (H : SC σ k j E w) : stC k := H.1.2.2.1
theorem aoR (i : Nat) (h : kd σ i = (22, 0)) : ao σ 2 (some i) = True := aoN h
theorem pR_lt {r : Nat} (hF : 1 ≤ sF S ∧ sF S ≤ 4) (hr : r ≤ 10) : pR S r + 11 ≤ 1188 := by
  show 297 * (sF S - 1) + 11 * r + 11 ≤ 1188
  omega
theorem T241 (H : SC σ k j E w) (hS : CSt σ k S) (hF : 1 ≤ sF S ∧ sF S ≤ 4) (hd : fD w ≤ 10) : MM 241 [mR (some 40)] σ = some (some (mI ((pR S (dR w) : Nat) : Int)), σ) := by
  have f := (fld_rng w).2.1
  have e : (dR w : Int) = fD w := by show ((fD w).toNat : Int) = _; omega
  have t := T212 (r := dR w) (sc_k H) hS.1.1 hF (dR_10 hd)
  rw [e] at t
  simp only [M241, e241_0, e241_11, e241_14, Option.getD_some, Option.bind_some, Option.toList_some, Option.toList_none, List.cons_append, List.nil_append, and_self, and_true, true_and, false_and, and_false, ite_self, not_true_eq_false, not_false_eq_true, reduceIte, Nat.reduceEqDiff, ab_I, ab_L, ab_R, ao_I, ao_L, ao_R, gL_sL, gI_sI, gR_sR, gI_sL, gI_sR, gL_sI, gL_sR, gR_sI, gR_sL, sc_w H, T1, sc_h H, sc_ao H, t]
theorem T242 (H : SC σ k j E w) (hS : CSt σ k S) (hF : 1 ≤ sF S ∧ sF S ≤ 4) (hs : fS w ≤ 10) : MM 242 [mR (some 40)] σ = some (some (mI ((pR S (sRr w) : Nat) : Int)), σ) := by
  have f := (fld_rng w).2.2.1
  have e : (sRr w : Int) = fS w := by show ((fS w).toNat : Int) = _; omega
  have t := T212 (r := sRr w) (sc_k H) hS.1.1 hF (sR_10 hs)
  rw [e] at t
  simp only [M242, e242_0, e242_11, e242_14, Option.getD_some, Option.bind_some, Option.toList_some, Option.toList_none, List.cons_append, List.nil_append, and_self, and_true, true_and, false_and, and_false, ite_self, not_true_eq_false, not_false_eq_true, reduceIte, Nat.reduceEqDiff, ab_I, ab_L, ab_R, ao_I, ao_L, ao_R, gL_sL, gI_sI, gR_sR, gI_sL, gI_sR, gL_sI, gL_sR, gR_sI, gR_sL, sc_w H, T2, sc_h H, sc_ao H, t]
theorem T243 (H : SC σ k j E w) : MM 243 [mR (some 40)] σ = some (some (mI (b2 (rgt w))), σ) := by
  by_cases r : rgt w
  · have e : ¬ iAnd (fOp w) 8 = 0 := by rw [m8]; show ¬ fOp w / 8 % 2 * 8 = 0; omega
    simp only [M243, e243_0, Option.getD_some, Option.bind_some, Option.toList_some, Option.toList_none, List.cons_append, List.nil_append, and_self, and_true, true_and, false_and, and_false, ite_self, not_true_eq_false, not_false_eq_true, reduceIte, Nat.reduceEqDiff, ab_I, ab_L, ab_R, ao_I, ao_L, ao_R, gL_sL, gI_sI, gR_sR, gI_sL, gI_sR, gL_sI, gL_sR, gR_sI, gR_sL, sc_p H, e, b2_yes r]
  · have e : iAnd (fOp w) 8 = 0 := by rw [m8]; omega
    simp only [M243, e243_0, Option.getD_some, Option.bind_some, Option.toList_some, Option.toList_none, List.cons_append, List.nil_append, and_self, and_true, true_and, false_and, and_false, ite_self, not_true_eq_false, not_false_eq_true, reduceIte, Nat.reduceEqDiff, ab_I, ab_L, ab_R, ao_I, ao_L, ao_R, gL_sL, gI_sI, gR_sR, gI_sL, gI_sR, gL_sI, gL_sR, gR_sI, gR_sL, sc_p H, e, b2_no r]
theorem T244 {x : Int} : MM 244 [mI x] σ = some (some (mI (b2 (x = 6 ∨ x = 10))), σ) := by
  by_cases c6 : x = 6
  · simp only [M244, e244_0, e244_12, Option.getD_some, Option.bind_some, Option.toList_some, Option.toList_none, List.cons_append, List.nil_append, and_self, and_true, true_and, false_and, and_false, ite_self, not_true_eq_false, not_false_eq_true, reduceIte, Nat.reduceEqDiff, ab_I, ab_L, ab_R, ao_I, ao_L, ao_R, gL_sL, gI_sI, gR_sR, gI_sL, gI_sR, gL_sI, gL_sR, gR_sI, gR_sL, c6, true_or, Int.reduceEq, or_false, b2_yes trivial]
  · by_cases c10 : x = 10
    · simp only [M244, e244_0, e244_12, Option.getD_some, Option.bind_some, Option.toList_some, Option.toList_none, List.cons_append, List.nil_append, and_self, and_true, true_and, false_and, and_false, ite_self, not_true_eq_false, not_false_eq_true, reduceIte, Nat.reduceEqDiff, ab_I, ab_L, ab_R, ao_I, ao_L, ao_R, gL_sL, gI_sI, gR_sR, gI_sL, gI_sR, gL_sI, gL_sR, gR_sI, gR_sL, c10, Int.reduceEq, false_or, b2_yes trivial]
    · simp only [M244, e244_0, Option.getD_some, Option.bind_some, Option.toList_some, Option.toList_none, List.cons_append, List.nil_append, and_self, and_true, true_and, false_and, and_false, ite_self, not_true_eq_false, not_false_eq_true, reduceIte, Nat.reduceEqDiff, ab_I, ab_L, ab_R, ao_I, ao_L, ao_R, gL_sL, gI_sI, gR_sR, gI_sL, gI_sR, gL_sI, gL_sR, gR_sI, gR_sL, c6, c10, or_self, b2_no not_false]
theorem T245 {x : Int} : MM 245 [mI x] σ = some (some (mI (b2 (x = 3 ∨ x = 5 ∨ x = 7 ∨ x = 9))), σ) := by
  by_cases c3 : x = 3
  · simp only [M245, e245_0, e245_22, Option.getD_some, Option.bind_some, Option.toList_some, Option.toList_none, List.cons_append, List.nil_append, and_self, and_true, true_and, false_and, and_false, ite_self, not_true_eq_false, not_false_eq_true, reduceIte, Nat.reduceEqDiff, ab_I, ab_L, ab_R, ao_I, ao_L, ao_R, gL_sL, gI_sI, gR_sR, gI_sL, gI_sR, gL_sI, gL_sR, gR_sI, gR_sL, c3, true_or, Int.reduceEq, b2_yes trivial]
  · by_cases c5 : x = 5
    · simp only [M245, e245_0, e245_22, Option.getD_some, Option.bind_some, Option.toList_some, Option.toList_none, List.cons_append, List.nil_append, and_self, and_true, true_and, false_and, and_false, ite_self, not_true_eq_false, not_false_eq_true, reduceIte, Nat.reduceEqDiff, ab_I, ab_L, ab_R, ao_I, ao_L, ao_R, gL_sL, gI_sI, gR_sR, gI_sL, gI_sR, gL_sI, gL_sR, gR_sI, gR_sL, c5, Int.reduceEq, false_or, true_or, b2_yes trivial]
    · by_cases c7 : x = 7
      · simp only [M245, e245_0, e245_22, Option.getD_some, Option.bind_some, Option.toList_some, Option.toList_none, List.cons_append, List.nil_append, and_self, and_true, true_and, false_and, and_false, ite_self, not_true_eq_false, not_false_eq_true, reduceIte, Nat.reduceEqDiff, ab_I, ab_L, ab_R, ao_I, ao_L, ao_R, gL_sL, gI_sI, gR_sR, gI_sL, gI_sR, gL_sI, gL_sR, gR_sI, gR_sL, c7, Int.reduceEq, false_or, true_or, b2_yes trivial]
      · by_cases c9 : x = 9
        · simp only [M245, e245_0, e245_22, Option.getD_some, Option.bind_some, Option.toList_some, Option.toList_none, List.cons_append, List.nil_append, and_self, and_true, true_and, false_and, and_false, ite_self, not_true_eq_false, not_false_eq_true, reduceIte, Nat.reduceEqDiff, ab_I, ab_L, ab_R, ao_I, ao_L, ao_R, gL_sL, gI_sI, gR_sR, gI_sL, gI_sR, gL_sI, gL_sR, gR_sI, gR_sL, c9, Int.reduceEq, false_or, b2_yes trivial]
        · simp only [M245, e245_0, Option.getD_some, Option.bind_some, Option.toList_some, Option.toList_none, List.cons_append, List.nil_append, and_self, and_true, true_and, false_and, and_false, ite_self, not_true_eq_false, not_false_eq_true, reduceIte, Nat.reduceEqDiff, ab_I, ab_L, ab_R, ao_I, ao_L, ao_R, gL_sL, gI_sI, gR_sR, gI_sL, gI_sR, gL_sI, gL_sR, gR_sI, gR_sL, c3, c5, c7, c9, or_self, b2_no not_false]
theorem PX_F (P : PX S E t) : 1 ≤ sF S ∧ sF S ≤ 4 := P.1.1
theorem PX_k {r : Nat} (P : PX S E t) (hr : r ≤ 10) : okK (rgV S r) := (rV_ok P.1 hr).1
theorem okW_r {r : Nat} (P : PX S E t) (hr : r ≤ 10) : okW (rgV S r) := okW_of (rV_ok P.1 hr) (can_r P.2.1 P.1.1.1 hr) (x_r P.2.2.1 P.1.1.1 hr).1 (by have := P.1.1; omega) P.2.2.2
/-- the kind of a register -/
theorem T214r {r : Nat} (H : SC σ k j E w) (hS : CSt σ k S) (P : PX S E t) (hr : r ≤ 10) : MM 214 [mR (some k), mI ((pR S r : Nat) : Int)] σ = some (some (mI (vk (rgV S r))), σ) := T214 (sc_k H) (by have := pR_lt (PX_F P) hr; omega) (cAt_rg hS P.1.1.1 hr) (PX_k P hr)
theorem T212r {r : Nat} (H : SC σ k j E w) (hS : CSt σ k S) (P : PX S E t) (hr : r ≤ 10) : MM 212 [mR (some k), mI (r : Int)] σ = some (some (mI ((pR S r : Nat) : Int)), σ) := T212 (sc_k H) hS.1.1 (PX_F P) hr
/-- the sides of an operation -/
theorem T248 (H : SC σ k j E w) (hS : CSt σ k S) (P : PX S E t) (hd : fD w ≤ 10) (hs : rgt w → fS w ≤ 10) : ∃ X Y : N6, MM 248 [mR (some 40)] σ = some (none, wC (wC σ 42 X) 43 Y) ∧ (¬ vk (rgV S (dR w)) = 0 → X = vn (rgV S (dR w))) ∧ ((rgt w → ¬ vk (rgV S (sRr w)) = 0) → Y = vn (rgtV S w)) := by
  have F := PX_F P
  have k1 := sc_k H
  have sc := sc_c H
  have ne : ∀ i, 42 ≤ i → i ≤ 50 → ¬ k + 1 + 0 = i := fun i h1 h2 => by omega
  have t67 := T67 (σ := σ) (k := 42) (r := k + 1 + 0) (a := pR S (dR w)) (L := 1188) (kc_42 σ) k1.2.1 (ne 42 (by decide) (by decide)) (by have := pR_lt F (dR_10 hd); omega) (by decide)
  have e1 : ¬ vk (rgV S (dR w)) = 0 → rowN σ (k + 1 + 0) (pR S (dR w)) = vn (rgV S (dR w)) := fun z => rd_row (cAt_rg hS F.1 (dR_10 hd)) z
  generalize rowN σ (k + 1 + 0) (pR S (dR w)) = X at *
  have q1 : nfq (wC σ 42 X) σ := nfq_w (by omega)
  have H1 := SC_n q1 H
  have S1 := CSt_n sc q1 hS
  have t43 := T243 H1
  by_cases r : rgt w
  · have t67b := T67 (σ := wC σ 42 X) (k := 43) (r := k + 1 + 0) (a := pR S (sRr w)) (L := 1188) (kc_43 _) (sc_k H1).2.1 (ne 43 (by decide) (by decide)) (by have := pR_lt F (sR_10 (hs r)); omega) (by decide)
    have e2 : ¬ vk (rgV S (sRr w)) = 0 → rowN (wC σ 42 X) (k + 1 + 0) (pR S (sRr w)) = vn (rgV S (sRr w)) := fun z => rd_row (cAt_rg S1 F.1 (sR_10 (hs r))) z
    generalize rowN (wC σ 42 X) (k + 1 + 0) (pR S (sRr w)) = Y at *
    rw [b2_yes r] at t43
    refine ⟨X, Y, ?_, e1, fun z => ?_⟩
    · simp only [M248, e248_0, e248_15, e248_18, e248_22, e248_40, e248_43, e248_61, Option.getD_some, Option.bind_some, Option.toList_some, Option.toList_none, List.cons_append, List.nil_append, and_self, and_true, true_and, false_and, and_false, ite_self, not_true_eq_false, not_false_eq_true, reduceIte, Nat.reduceEqDiff, ab_I, ab_L, ab_R, ao_I, ao_L, ao_R, gL_sL, gI_sI, gR_sR, gI_sL, gI_sR, gL_sI, gL_sR, gR_sI, gR_sL, sc_h H, sc_ao H, T241 H hS F hd, aoR 42 (kc_42 _), t67, t43, oneI, sc_h H1, sc_ao H1, T242 H1 S1 F (hs r), aoR 43 (kc_43 _), t67b]
    · unfold rgtV
      rw [if_pos r]
      exact e2 (z r)
  · have t61 := T61 (σ := wC σ 42 X) (k := 43) (x1 := iL (fI w)) (kc_43 _)
    rw [b2_no r] at t43
    refine ⟨X, cstN (iL (fI w)), ?_, e1, fun z => ?_⟩
    · simp only [M248, e248_0, e248_15, e248_18, e248_22, e248_57, e248_61, Option.getD_some, Option.bind_some, Option.toList_some, Option.toList_none, List.cons_append, List.nil_append, and_self, and_true, true_and, false_and, and_false, ite_self, not_true_eq_false, not_false_eq_true, reduceIte, Nat.reduceEqDiff, ab_I, ab_L, ab_R, ao_I, ao_L, ao_R, gL_sL, gI_sI, gR_sR, gI_sL, gI_sR, gL_sI, gL_sR, gR_sI, gR_sL, sc_h H, sc_ao H, T241 H hS F hd, aoR 42 (kc_42 _), t67, t43, sc_w H1, T4, aoR 43 (kc_43 _), t61]
    · unfold rgtV
      rw [if_neg r]
      rfl
theorem T252 : MM 252 [mR (some 40)] σ = some (some (mI (w32 (gI σ 40 8 + 1))), sI σ 40 8 (w32 (gI σ 40 8 + 1))) := by
  simp only [M252, e252_0, Option.getD_some, Option.bind_some, Option.toList_some, Option.toList_none, List.cons_append, List.nil_append, and_self, and_true, true_and, false_and, and_false, ite_self, not_true_eq_false, not_false_eq_true, reduceIte, Nat.reduceEqDiff, ab_I, ab_L, ab_R, ao_I, ao_L, ao_R, gL_sL, gI_sI, gR_sR, gI_sL, gI_sR, gL_sI, gL_sR, gR_sI, gR_sL]
/-! what is behind an instruction -/
/-- f: the fault; else the state is S', the word n is next, one way -/
def spo (σ τ : MS) (k j : Nat) (f : Int) (S' : ST) (n t' : Int) : Prop := sfq τ σ k j ∧ (f = 0 → CSt τ k S' ∧ gI τ 40 4 = n ∧ gI τ 40 3 = gI σ 40 3 ∧ gI τ 40 8 = t')
theorem spo_f {f n t' : Int} {S' : ST} (hf : ¬ f = 0) (q : sfq τ σ k j) : spo σ τ k j f S' n t' := ⟨q, fun z => absurd z hf⟩
theorem spo_0 (hS : CSt σ k S) : spo σ σ k j 0 S (gI σ 40 4) (gI σ 40 8) := ⟨sfq_r _ _ _, fun _ => ⟨hS, rfl, rfl, rfl⟩⟩
/-- a number has come to a register, by way of Nums -/
theorem spo_w {ρ : MS} {r : Nat} (H : SC σ k j E w) (hS : CSt σ k S) (hF : 1 ≤ sF S ∧ sF S ≤ 4) (hr : r ≤ 9) (h1 : nfq ρ σ) (h2 : cxV τ ρ k (pR S r) v) : spo σ τ k j 0 (wV S r v) (gI σ 40 4) (gI σ 40 8) :=
  ⟨sfq_t (sfq_v h2) (sfq_n h1), fun _ => ⟨CSt_w hF (CSt_n (sc_c H) h1 hS) hr h2, (h2.1 _ _).trans (h1.1 _ _), (h2.1 _ _).trans (h1.1 _ _), (h2.1 _ _).trans (h1.1 _ _)⟩⟩
end CTX
-- FILE 85.calu
/-! ===== the class's ALU instructions ===== -/
section CAL2
variable {a b c τ σ ρ : MS} {k j pl r : Nat} {E : EV} {w : B64} {S : ST} {t : Int} {u v p : VL} {n : N6} {x : B64} {o : Int}
/-- a field of a VALUE is written -/
theorem cx_set {i : Nat} (hi : i < 11) (c : cxV τ σ k pl v) (e : ∀ i', i' < 11 → ¬ i' = i → enV u i' = enV v i') (e2 : enV u i = x) : cxV (sL τ (k + 1 + 0) (pl + i) x) σ k pl u := by
  obtain ⟨c1, c2, c3, c4⟩ := c
  refine ⟨c1, fun k' s q => ?_, c3, fun i' hi' => ?_⟩
  · rw [gL_sL, if_neg (by omega)]
    exact c2 k' s q
  · rw [gL_sL]
    by_cases z : i' = i
    · rw [if_pos ⟨rfl, by omega⟩, z, e2]
    · rw [if_neg (by omega), e i' hi' z]
      exact c4 i' hi'
theorem i11 {P : Nat → Prop} (h0 : P 0) (h1 : P 1) (h2 : P 2) (h3 : P 3) (h4 : P 4) (h5 : P 5) (h6 : P 6) (h7 : P 7) (h8 : P 8) (h9 : P 9) (h10 : P 10) {i : Nat} (hi : i < 11) : P i := by
  have c : i = 0 ∨ i = 1 ∨ i = 2 ∨ i = 3 ∨ i = 4 ∨ i = 5 ∨ i = 6 ∨ i = 7 ∨ i = 8 ∨ i = 9 ∨ i = 10 := by omega
  rcases c with rfl | rfl | rfl | rfl | rfl | rfl | rfl | rfl | rfl | rfl | rfl <;> assumption
theorem cx_7 (c : cxV τ σ k pl v) : cxV (sL τ (k + 1 + 0) (pl + 7) (iL o)) σ k pl (vO v o) := cx_set (by decide) c (fun i' hi' => i11 (P := fun i' => ¬ i' = 7 → enV (vO v o) i' = enV v i') (fun _ => rfl) (fun _ => rfl) (fun _ => rfl) (fun _ => rfl) (fun _ => rfl) (fun _ => rfl) (fun _ => rfl) (fun z => absurd rfl z) (fun _ => rfl) (fun _ => rfl) (fun _ => rfl) hi') rfl
theorem cx_10 (c : cxV τ σ k pl v) : cxV (sL τ (k + 1 + 0) (pl + 10) (iL o)) σ k pl (vT v o) := cx_set (by decide) c (fun i' hi' => i11 (P := fun i' => ¬ i' = 10 → enV (vT v o) i' = enV v i') (fun _ => rfl) (fun _ => rfl) (fun _ => rfl) (fun _ => rfl) (fun _ => rfl) (fun _ => rfl) (fun _ => rfl) (fun _ => rfl) (fun _ => rfl) (fun _ => rfl) (fun z => absurd rfl z) hi') rfl
theorem cx_9 (c : cxV τ σ k pl v) (h : ¬ vk v = 0) : cxV (sL τ (k + 1 + 0) (pl + 9) (iL o)) σ k pl (vR v o) := by
  have h' : ¬ vk (vR v o) = 0 := h
  refine cx_set (by decide) c (fun i' hi' => i11 (P := fun i' => ¬ i' = 9 → enV (vR v o) i' = enV v i') (fun _ => rfl) (fun _ => ?_) (fun _ => rfl) (fun _ => rfl) (fun _ => rfl) (fun _ => rfl) (fun _ => rfl) (fun _ => rfl) (fun _ => rfl) (fun z => absurd rfl z) (fun _ => rfl) hi') ?_
  · show (if vk (vR v o) = 0 then iL (vr (vR v o)) else jV (vn (vR v o))) = (if vk v = 0 then iL (vr v) else jV (vn v))
    rw [if_neg h, if_neg h']
  · show (if vk (vR v o) = 0 then 0#64 else iL o) = iL o
    rw [if_neg h']
theorem cx_num (c : cxV τ σ k pl v) (h : ¬ vk v = 0) : cxV (wRN τ (k + 1 + 0) pl n) σ k pl (vN v n) := by
  have h' : ¬ vk (vN v n) = 0 := h
  obtain ⟨c1, c2, c3, c4⟩ := c
  refine ⟨c1, fun k' s q => ?_, c3, fun i hi => ?_⟩
  · unfold wRN
    rw [gL_sL, if_neg (by omega), gL_sL, if_neg (by omega), gL_sL, if_neg (by omega), gL_sL, if_neg (by omega), gL_sL, if_neg (by omega), gL_sL, if_neg (by omega)]
    exact c2 k' s q
  · unfold wRN
    rw [gL_sL, gL_sL, gL_sL, gL_sL, gL_sL, gL_sL]
    have cc : i = 0 ∨ i = 1 ∨ i = 2 ∨ i = 3 ∨ i = 4 ∨ i = 5 ∨ i = 6 ∨ 7 ≤ i := by omega
    rcases cc with cc | cc | cc | cc | cc | cc | cc | cc
    · rw [if_neg (by omega), if_neg (by omega), if_neg (by omega), if_neg (by omega), if_neg (by omega), if_neg (by omega), c4 i hi, cc]
      rfl
    · subst cc
      rw [if_neg (by omega), if_neg (by omega), if_neg (by omega), if_neg (by omega), if_neg (by omega), if_pos ⟨rfl, rfl⟩]
      show jV n = (if vk (vN v n) = 0 then iL (vr (vN v n)) else jV (vn (vN v n)))
      rw [if_neg h']
    · subst cc
      rw [if_neg (by omega), if_neg (by omega), if_neg (by omega), if_neg (by omega), if_pos ⟨rfl, rfl⟩]
      rfl
    · subst cc
      rw [if_neg (by omega), if_neg (by omega), if_neg (by omega), if_pos ⟨rfl, rfl⟩]
      rfl
    · subst cc
      rw [if_neg (by omega), if_neg (by omega), if_pos ⟨rfl, rfl⟩]
      rfl
    · subst cc
      rw [if_neg (by omega), if_pos ⟨rfl, rfl⟩]
      rfl
    · subst cc
      rw [if_pos ⟨rfl, rfl⟩]
      rfl
    · rw [if_neg (by omega), if_neg (by omega), if_neg (by omega), if_neg (by omega), if_neg (by omega), if_neg (by omega), c4 i hi]
      refine i11 (P := fun i => 7 ≤ i → enV v i = enV (vN v n) i) ?_ ?_ ?_ ?_ ?_ ?_ ?_ (fun _ => rfl) (fun _ => rfl) (fun _ => rfl) (fun _ => rfl) hi cc
      all_goals (intro z; exfalso; omega)
theorem iLI (x : B64) : iL x.toInt = x := by
  unfold iL
  exact BitVec.ofInt_toInt
theorem T251 {tn : Int} (H : SC σ k j E w) (hS : CSt σ k S) (P : PX S E t) (hd : fD w ≤ 9) (hs : tn = 1 → fS w ≤ 10) (htn : tn = 0 ∨ tn = 1) (hp : p = rgV S (if tn = 0 then dR w else sRr w)) :
    okc (MM 251 [mR (some 40), mI tn, mL x] σ) (some (mI (if x.toInt < -8192 ∨ 8192 < x.toInt ∨ vo p + x.toInt < -4096 ∨ 4096 < vo p + x.toInt then 5 else 0))) (fun τ => (if x.toInt < -8192 ∨ 8192 < x.toInt ∨ vo p + x.toInt < -4096 ∨ 4096 < vo p + x.toInt then τ = σ else cxV τ σ k (pR S (dR w)) (vO p (vo p + x.toInt)))) := by
  have F := PX_F P
  have k1 := sc_k H
  obtain ⟨r, hr⟩ : ∃ r, r = (if tn = 0 then dR w else sRr w) := ⟨_, rfl⟩
  have r10 : r ≤ 10 := by
    rw [hr]
    split
    · exact dR_10 (by omega)
    · exact sR_10 (hs (by omega))
  rw [← hr] at hp
  have pa := cAt_rg hS F.1 r10
  rw [← hp] at pa
  have wp := okW_r P r10
  rw [← hp] at wp
  have l := pR_lt F r10
  have ld := pR_lt F (dR_10 (show fD w ≤ 10 by omega))
  have s19 : MM 251 [mR (some 40), mI tn, mL x] σ = RR (lkB tb251) (B251_19, [some (mR (some 40)), some (mI tn), some (mL x), none, some (mI ((pR S (dR w) : Nat) : Int)), none, none, none], [mI ((pR S r : Nat) : Int)], σ) := by
    rcases htn with z | z
    · rw [hr, if_pos z]
      simp only [M251, e251_0, e251_4, Option.getD_some, Option.bind_some, Option.toList_some, Option.toList_none, List.cons_append, List.nil_append, and_self, and_true, true_and, false_and, and_false, ite_self, not_true_eq_false, not_false_eq_true, reduceIte, Nat.reduceEqDiff, ab_I, ab_L, ab_R, ao_I, ao_L, ao_R, gL_sL, gI_sI, gR_sR, gI_sL, gI_sR, gL_sI, gL_sR, gR_sI, gR_sL, T241 H hS F (show fD w ≤ 10 by omega), z]
    · have nz : ¬ tn = 0 := by omega
      rw [hr, if_neg nz]
      simp only [M251, e251_0, e251_4, e251_14, Option.getD_some, Option.bind_some, Option.toList_some, Option.toList_none, List.cons_append, List.nil_append, and_self, and_true, true_and, false_and, and_false, ite_self, not_true_eq_false, not_false_eq_true, reduceIte, Nat.reduceEqDiff, ab_I, ab_L, ab_R, ao_I, ao_L, ao_R, gL_sL, gI_sI, gR_sR, gI_sL, gI_sR, gL_sI, gL_sR, gR_sI, gR_sL, T241 H hS F (show fD w ≤ 10 by omega), nz, T242 H hS F (hs z)]
  have w7 : w32 (((pR S r : Nat) : Int) + 7) = ((pR S r + 7 : Nat) : Int) := w_pl (c := 7) (by omega)
  have w7d : w32 (((pR S (dR w) : Nat) : Int) + 7) = ((pR S (dR w) + 7 : Nat) : Int) := w_pl (c := 7) (by omega)
  have g7 := gSt k1 (show pR S r + 7 < 1188 by omega)
  have c1 : (BitVec.toInt x < BitVec.toInt (iL (-8192))) = (x.toInt < -8192) := by rw [iLt (by decide) (by decide)]
  have c2 : (BitVec.toInt (iL 8192) < BitVec.toInt x) = (8192 < x.toInt) := by rw [iLt (by decide) (by decide)]
  have wo := wp.2.2.2.1
  have xs := iLI x
  rw [s19]
  by_cases d1 : x.toInt < -8192
  · rw [if_pos (Or.inl d1)]
    refine okc_o (τ := σ) ?_ ((if_pos (Or.inl d1)).mpr rfl)
    simp only [e251_19, Option.getD_some, Option.bind_some, Option.toList_some, Option.toList_none, List.cons_append, List.nil_append, and_self, and_true, true_and, false_and, and_false, ite_self, not_true_eq_false, not_false_eq_true, reduceIte, Nat.reduceEqDiff, ab_I, ab_L, ab_R, ao_I, ao_L, ao_R, gL_sL, gI_sI, gR_sR, gI_sL, gI_sR, gL_sI, gL_sR, gR_sI, gR_sL, sc_h H, sc_ao H, g7, w7, c1, eq_true d1]
  · by_cases d2 : 8192 < x.toInt
    · rw [if_pos (Or.inr (Or.inl d2))]
      refine okc_o (τ := σ) ?_ ((if_pos (Or.inr (Or.inl d2))).mpr rfl)
      simp only [e251_19, Option.getD_some, Option.bind_some, Option.toList_some, Option.toList_none, List.cons_append, List.nil_append, and_self, and_true, true_and, false_and, and_false, ite_self, not_true_eq_false, not_false_eq_true, reduceIte, Nat.reduceEqDiff, ab_I, ab_L, ab_R, ao_I, ao_L, ao_R, gL_sL, gI_sI, gR_sR, gI_sL, gI_sR, gL_sI, gL_sR, gR_sI, gR_sL, sc_h H, sc_ao H, g7, w7, c1, c2, d1, eq_true d2]
    · have es : gL σ (k + 1 + 0) (pR S r + 7) + x = iL (vo p + x.toInt) := by
        rw [rd_7 pa, ← iLa, xs]
      have c3 : (BitVec.toInt (iL (vo p + x.toInt)) < BitVec.toInt (iL (-4096))) = (vo p + x.toInt < -4096) := by rw [iLt (x := -4096) (by decide) (by decide), iLt (by omega) (by omega)]
      have c4 : (BitVec.toInt (iL (vo p + x.toInt)) ≤ BitVec.toInt (iL 4096)) = (vo p + x.toInt ≤ 4096) := by rw [iLt (x := 4096) (by decide) (by decide), iLt (by omega) (by omega)]
      by_cases d3 : vo p + x.toInt < -4096
      · rw [if_pos (Or.inr (Or.inr (Or.inl d3)))]
        refine okc_o (τ := σ) ?_ ((if_pos (Or.inr (Or.inr (Or.inl d3)))).mpr rfl)
        simp only [e251_19, Option.getD_some, Option.bind_some, Option.toList_some, Option.toList_none, List.cons_append, List.nil_append, and_self, and_true, true_and, false_and, and_false, ite_self, not_true_eq_false, not_false_eq_true, reduceIte, Nat.reduceEqDiff, ab_I, ab_L, ab_R, ao_I, ao_L, ao_R, gL_sL, gI_sI, gR_sR, gI_sL, gI_sR, gL_sI, gL_sR, gR_sI, gR_sL, sc_h H, sc_ao H, g7, w7, c1, c2, d1, d2, Int.toNat_natCast, es, c3, eq_true d3]
      · by_cases d4 : vo p + x.toInt ≤ 4096
        · have nb : ¬ (x.toInt < -8192 ∨ 8192 < x.toInt ∨ vo p + x.toInt < -4096 ∨ 4096 < vo p + x.toInt) := by omega
          obtain ⟨τ1, t16, q16⟩ := T216 (a := pR S r) (b := pR S (dR w)) k1 l ld pa
          have q7 := cx_7 (o := vo p + x.toInt) q16
          rw [if_neg nb]
          refine okc_o (τ := sL τ1 (k + 1 + 0) (pR S (dR w) + 7) (iL (vo p + x.toInt))) ?_ ((if_neg nb).mpr q7)
          have H1 := SC_q (sfq_v (j := j) q16) H
          have g7d := gSt (sc_k H1) (show pR S (dR w) + 7 < 1188 by omega)
          simp only [e251_19, e251_85, Option.getD_some, Option.bind_some, Option.toList_some, Option.toList_none, List.cons_append, List.nil_append, and_self, and_true, true_and, false_and, and_false, ite_self, not_true_eq_false, not_false_eq_true, reduceIte, Nat.reduceEqDiff, ab_I, ab_L, ab_R, ao_I, ao_L, ao_R, gL_sL, gI_sI, gR_sR, gI_sL, gI_sR, gL_sI, gL_sR, gR_sI, gR_sL, sc_h H, sc_ao H, g7, w7, c1, c2, d1, d2, Int.toNat_natCast, es, c3, d3, c4, eq_true d4, t16, sc_h H1, sc_ao H1, w7d, g7d]
        · have bd : x.toInt < -8192 ∨ 8192 < x.toInt ∨ vo p + x.toInt < -4096 ∨ 4096 < vo p + x.toInt := by omega
          rw [if_pos bd]
          refine okc_o (τ := σ) ?_ ((if_pos bd).mpr rfl)
          simp only [e251_19, Option.getD_some, Option.bind_some, Option.toList_some, Option.toList_none, List.cons_append, List.nil_append, and_self, and_true, true_and, false_and, and_false, ite_self, not_true_eq_false, not_false_eq_true, reduceIte, Nat.reduceEqDiff, ab_I, ab_L, ab_R, ao_I, ao_L, ao_R, gL_sL, gI_sI, gR_sR, gI_sL, gI_sR, gL_sI, gL_sR, gR_sI, gR_sL, sc_h H, sc_ao H, g7, w7, c1, c2, d1, d2, Int.toNat_natCast, es, c3, d3, c4, eq_false d4]
abbrev okSh (S : ST) (w : B64) : Prop := (mvs (rgV S (dR w)) ∧ vk (rgtV S w) = 1) ∨ (fC w = 0 ∧ vk (rgV S (dR w)) = 1 ∧ mvs (rgtV S w))
/-- what moving a place makes -/
def shfR (S : ST) (w : B64) (t : Int) : Int × VL × Int := if vk (rgV S (dR w)) = 1 then shfV (rgtV S w) (vn (rgV S (dR w))) (fC w) t else shfV (rgV S (dR w)) (vn (rgtV S w)) (fC w) t
theorem T250n (hc : fC w = 0 ∨ fC w = 16) (hn : ¬ okSh S w) (hb : ¬ (vk (rgV S (dR w)) = 1 ∧ vk (rgtV S w) = 1)) : MM 250 [mR (some 40), mI (b2 (fC w = 0)), mI (vk (rgV S (dR w))), mI (vk (rgtV S w))] σ = some (some (mI 4), σ) := by
  by_cases l1 : vk (rgV S (dR w)) = 1
  · have r1 : ¬ vk (rgtV S w) = 1 := fun z => hb ⟨l1, z⟩
    have ng : ¬ (fC w = 0 ∧ mvs (rgtV S w)) := fun z => hn (Or.inr ⟨z.1, l1, z.2⟩)
    by_cases m : mvs (rgtV S w)
    · have c0 : ¬ fC w = 0 := fun z => ng ⟨z, m⟩
      simp only [M250, e250_0, e250_10, e250_22, e250_29, Option.getD_some, Option.bind_some, Option.toList_some, Option.toList_none, List.cons_append, List.nil_append, and_self, and_true, true_and, false_and, and_false, ite_self, not_true_eq_false, not_false_eq_true, reduceIte, Nat.reduceEqDiff, ab_I, ab_L, ab_R, ao_I, ao_L, ao_R, gL_sL, gI_sI, gR_sR, gI_sL, gI_sR, gL_sI, gL_sR, gR_sI, gR_sL, l1, oneI, T245, b2_n', b2_0', eq_true m, c0]
    · simp only [M250, e250_0, e250_10, e250_22, e250_29, Option.getD_some, Option.bind_some, Option.toList_some, Option.toList_none, List.cons_append, List.nil_append, and_self, and_true, true_and, false_and, and_false, ite_self, not_true_eq_false, not_false_eq_true, reduceIte, Nat.reduceEqDiff, ab_I, ab_L, ab_R, ao_I, ao_L, ao_R, gL_sL, gI_sI, gR_sR, gI_sL, gI_sR, gL_sI, gL_sR, gR_sI, gR_sL, l1, oneI, T245, b2_n', b2_0', eq_false m]
  · by_cases m : mvs (rgV S (dR w))
    · have r1 : ¬ vk (rgtV S w) = 1 := fun z => hn (Or.inl ⟨m, z⟩)
      simp only [M250, e250_0, e250_10, e250_22, e250_29, e250_41, Option.getD_some, Option.bind_some, Option.toList_some, Option.toList_none, List.cons_append, List.nil_append, and_self, and_true, true_and, false_and, and_false, ite_self, not_true_eq_false, not_false_eq_true, reduceIte, Nat.reduceEqDiff, ab_I, ab_L, ab_R, ao_I, ao_L, ao_R, gL_sL, gI_sI, gR_sR, gI_sL, gI_sR, gL_sI, gL_sR, gR_sI, gR_sL, l1, T245, b2_n', b2_0', eq_true m, r1]
    · simp only [M250, e250_0, e250_10, e250_22, e250_29, Option.getD_some, Option.bind_some, Option.toList_some, Option.toList_none, List.cons_append, List.nil_append, and_self, and_true, true_and, false_and, and_false, ite_self, not_true_eq_false, not_false_eq_true, reduceIte, Nat.reduceEqDiff, ab_I, ab_L, ab_R, ao_I, ao_L, ao_R, gL_sL, gI_sI, gR_sR, gI_sL, gI_sR, gL_sI, gL_sR, gR_sI, gR_sL, l1, T245, b2_n', b2_0', eq_false m]
theorem sL_two {s1 s2 : Nat} {y : B64} {i : Int} : sL (sI (sL σ k s1 x) 40 8 i) k s2 y = sI (sL (sL σ k s1 x) k s2 y) 40 8 i := rfl
theorem T250 (H : SC σ k j E w) (hS : CSt σ k S) (P : PX S E t) (ht : gI σ 40 8 = t) (hd : fD w ≤ 9) (hs : rgt w → fS w ≤ 10) (hc : fC w = 0 ∨ fC w = 16) (hn : okSh S w) : okc (MM 250 [mR (some 40), mI (b2 (fC w = 0)), mI (vk (rgV S (dR w))), mI (vk (rgtV S w))] σ) (some (mI (shfR S w t).1)) (fun τ => spo σ τ k j (shfR S w t).1 (wV S (dR w) (shfR S w t).2.1) (gI σ 40 4) (shfR S w t).2.2) := by
  have F := PX_F P
  have sc := sc_c H
  obtain ⟨tn, htn⟩ : ∃ tn : Int, tn = b2 (vk (rgV S (dR w)) = 1) := ⟨_, rfl⟩
  have tn01 : tn = 0 ∨ tn = 1 := by rw [htn]; have := @b2_le (vk (rgV S (dR w)) = 1) inferInstance; omega
  have rR : vk (rgV S (dR w)) = 1 → rgt w := fun z => by
    rcases hn with q | q
    · have m : mvs (rgV S (dR w)) := q.1
      exfalso; omega
    · have m := q.2.2
      unfold rgtV at m
      by_cases r : rgt w
      · exact r
      · rw [if_neg r] at m
        have m : (1 : Int) = 3 ∨ (1 : Int) = 5 ∨ (1 : Int) = 7 ∨ (1 : Int) = 9 := m
        exfalso; omega
  -- the place and the number
  obtain ⟨r, hr⟩ : ∃ r, r = (if tn = 0 then dR w else sRr w) := ⟨_, rfl⟩
  obtain ⟨p, hp⟩ : ∃ p, p = rgV S r := ⟨_, rfl⟩
  obtain ⟨n, hnn⟩ : ∃ n : N6, n = (if tn = 0 then vn (rgtV S w) else vn (rgV S (dR w))) := ⟨_, rfl⟩
  have hsh : shfR S w t = shfV p n (fC w) t := by
    unfold shfR
    by_cases z : vk (rgV S (dR w)) = 1
    · have t1 : ¬ tn = 0 := by rw [htn, b2_yes z]; decide
      rw [if_pos z, hp, hr, hnn, if_neg t1, if_neg t1]
      congr 1
      unfold rgtV
      rw [if_pos (rR z)]
    · have t0 : tn = 0 := by rw [htn, b2_no z]
      rw [if_neg z, hp, hr, hnn, if_pos t0, if_pos t0]
  have pm : mvs p := by
    rw [hp, hr]
    by_cases z : vk (rgV S (dR w)) = 1
    · have t1 : ¬ tn = 0 := by rw [htn, b2_yes z]; decide
      rw [if_neg t1]
      rcases hn with q | q
      · have m : mvs (rgV S (dR w)) := q.1
        exfalso; omega
      · have m := q.2.2
        unfold rgtV at m
        rwa [if_pos (rR z)] at m
    · have t0 : tn = 0 := by rw [htn, b2_no z]
      rw [if_pos t0]
      rcases hn with q | q
      · exact q.1
      · exact absurd q.2.1 z
  have r10 : r ≤ 10 := by
    rw [hr]
    split
    · exact dR_10 (by omega)
    · rename_i z
      exact sR_10 (hs (rR (by
        by_cases y : vk (rgV S (dR w)) = 1
        · exact y
        · exact absurd (htn.trans (b2_no y)) z)))
  have tnc : tn = 1 → fC w = 0 := fun z => by
    rcases hn with q | q
    · have m : mvs (rgV S (dR w)) := q.1
      exfalso
      have : ¬ vk (rgV S (dR w)) = 1 := by omega
      rw [htn, b2_no this] at z
      omega
    · exact q.1
  obtain ⟨X, Y, t48, eX, eY⟩ := T248 H hS P (show fD w ≤ 10 by omega) hs
  have kd0 : ¬ vk (rgV S (dR w)) = 0 := by
    rcases hn with q | q
    · have m : mvs (rgV S (dR w)) := q.1
      omega
    · omega
  have ks0 : rgt w → ¬ vk (rgV S (sRr w)) = 0 := fun g => by
    have e : rgtV S w = rgV S (sRr w) := if_pos g
    rcases hn with q | q
    · rw [← e]; omega
    · have m : mvs (rgtV S w) := q.2.2
      rw [← e]; omega
  have eX := eX kd0
  have eY := eY ks0
  subst eX eY
  obtain ⟨σ1, hσ1⟩ : ∃ σ1, σ1 = wC (wC σ 42 (vn (rgV S (dR w)))) 43 (vn (rgtV S w)) := ⟨_, rfl⟩
  have q1 : nfq σ1 σ := by rw [hσ1]; exact nfq_t (nfq_w (by omega)) (nfq_w (by omega))
  rw [← hσ1] at t48
  obtain ⟨yk, hyk⟩ : ∃ yk : Nat, yk = (if tn = 0 then 43 else 42) := ⟨_, rfl⟩
  have ry : rC σ1 yk = n := by
    rw [hσ1, hyk, hnn]
    by_cases z : tn = 0
    · rw [if_pos z, if_pos z, rC_wC, if_pos rfl]
    · rw [if_neg z, if_neg z, rC_wC, if_neg (by decide), rC_wC, if_pos rfl]
  have ky : isNm σ1 yk := by rw [hyk]; split <;> rfl
  have nmy : 42 ≤ yk ∧ yk ≤ 43 := by rw [hyk]; split <;> omega
  have H1 := SC_n q1 H
  have S1 := CSt_n sc q1 hS
  have hmK : vk p = 3 ∨ vk p = 5 ∨ vk p = 7 ∨ vk p = 9 := pm
  -- up to the asking whether the number is constant
  have s80 : MM 250 [mR (some 40), mI (b2 (fC w = 0)), mI (vk (rgV S (dR w))), mI (vk (rgtV S w))] σ = RR (lkB tb250) (B250_80, [some (mR (some 40)), some (mI (b2 (fC w = 0))), some (mI (vk (rgV S (dR w)))), some (mI (vk (rgtV S w))), some (mI tn), some (mI (vk p)), some (mR (some yk)), none, none], [mI (b2 (isC n))], σ1) := by
    have g1 : gL σ1 yk 1 = jM n := by rw [← ry]; rfl
    have t69 := T69 (σ := σ1) ky
    rw [g1] at t69
    by_cases z : vk (rgV S (dR w)) = 1
    · have t1 : tn = 1 := by rw [htn, b2_yes z]
      have c0 := tnc t1
      have ey : yk = 42 := by rw [hyk, if_neg (by omega)]
      have ek : vk p = vk (rgtV S w) := by
        rw [hp, hr, if_neg (by omega)]
        unfold rgtV
        rw [if_pos (rR z)]
      have m : mvs (rgtV S w) := by
        show vk (rgtV S w) = 3 ∨ vk (rgtV S w) = 5 ∨ vk (rgtV S w) = 7 ∨ vk (rgtV S w) = 9
        rw [← ek]; exact hmK
      rw [ek, ey, t1]
      rw [ey] at t69
      simp only [M250, e250_0, e250_10, e250_22, e250_29, e250_41, e250_53, e250_57, e250_73, Option.getD_some, Option.bind_some, Option.toList_some, Option.toList_none, List.cons_append, List.nil_append, and_self, and_true, true_and, false_and, and_false, ite_self, not_true_eq_false, not_false_eq_true, reduceIte, Nat.reduceEqDiff, ab_I, ab_L, ab_R, ao_I, ao_L, ao_R, gL_sL, gI_sI, gR_sR, gI_sL, gI_sR, gL_sI, gL_sR, gR_sI, gR_sL, eq_true z, oneI, T245, b2_n', b2_0', eq_true m, c0, t48, aoR 42 (kc_42 _), t69, b2_yes trivial, Int.reduceEq]
    · have t0 : tn = 0 := by rw [htn, b2_no z]
      have ey : yk = 43 := by rw [hyk, if_pos t0]
      have ek : vk p = vk (rgV S (dR w)) := by rw [hp, hr, if_pos t0]
      have m : mvs (rgV S (dR w)) := by
        show vk (rgV S (dR w)) = 3 ∨ vk (rgV S (dR w)) = 5 ∨ vk (rgV S (dR w)) = 7 ∨ vk (rgV S (dR w)) = 9
        rw [← ek]; exact hmK
      have r1 : vk (rgtV S w) = 1 := by
        rcases hn with q | q
        · exact q.2
        · exact absurd q.2.1 z
      rw [ek, ey, t0]
      rw [ey] at t69
      simp only [M250, e250_0, e250_10, e250_22, e250_29, e250_41, e250_53, e250_57, e250_73, Option.getD_some, Option.bind_some, Option.toList_some, Option.toList_none, List.cons_append, List.nil_append, and_self, and_true, true_and, false_and, and_false, ite_self, not_true_eq_false, not_false_eq_true, reduceIte, Nat.reduceEqDiff, ab_I, ab_L, ab_R, ao_I, ao_L, ao_R, gL_sL, gI_sI, gR_sR, gI_sL, gI_sR, gL_sI, gL_sR, gR_sI, gR_sL, z, T245, b2_n', b2_0', eq_true m, eq_true r1, t48, aoR 43 (kc_43 _), t69]
  rw [s80, hsh]
  unfold shfV
  by_cases cn : isC n
  · rw [if_pos cn, b2_yes cn]
    obtain ⟨d, hdd⟩ : ∃ d, d = (if fC w = 0 then jV n else - jV n) := ⟨_, rfl⟩
    rw [← hdd]
    have gy : gL σ1 yk 0 = jV n := by rw [← ry]; rfl
    obtain ⟨τ, t51, q51⟩ := T251 (x := d) (tn := tn) (p := p) H1 S1 P hd (fun z => hs (rR (by
        by_cases y : vk (rgV S (dR w)) = 1
        · exact y
        · exfalso; rw [htn, b2_no y] at z; omega))) tn01 (by rw [hp, hr])
    have s : RR (lkB tb250) (B250_80, [some (mR (some 40)), some (mI (b2 (fC w = 0))), some (mI (vk (rgV S (dR w)))), some (mI (vk (rgtV S w))), some (mI tn), some (mI (vk p)), some (mR (some yk)), none, none], [mI 1], σ1) = some (some (mI (if d.toInt < -8192 ∨ 8192 < d.toInt ∨ vo p + d.toInt < -4096 ∨ 4096 < vo p + d.toInt then 5 else 0)), τ) := by
      by_cases c0 : fC w = 0
      · rw [if_pos c0] at hdd
        rw [hdd] at t51 ⊢
        simp only [e250_80, e250_104, e250_107, Option.getD_some, Option.bind_some, Option.toList_some, Option.toList_none, List.cons_append, List.nil_append, and_self, and_true, true_and, false_and, and_false, ite_self, not_true_eq_false, not_false_eq_true, reduceIte, Nat.reduceEqDiff, ab_I, ab_L, ab_R, ao_I, ao_L, ao_R, gL_sL, gI_sI, gR_sR, gI_sL, gI_sR, gL_sI, gL_sR, gR_sI, gR_sL, oneI, c0, b2_n', b2_0', aoN ky, gy, t51]
      · rw [if_neg c0] at hdd
        rw [hdd] at t51 ⊢
        simp only [e250_80, e250_104, e250_107, Option.getD_some, Option.bind_some, Option.toList_some, Option.toList_none, List.cons_append, List.nil_append, and_self, and_true, true_and, false_and, and_false, ite_self, not_true_eq_false, not_false_eq_true, reduceIte, Nat.reduceEqDiff, ab_I, ab_L, ab_R, ao_I, ao_L, ao_R, gL_sL, gI_sI, gR_sR, gI_sL, gI_sR, gL_sI, gL_sR, gR_sI, gR_sL, oneI, c0, b2_n', b2_0', aoN ky, gy, t51]
    rw [s]
    by_cases bd : d.toInt < -8192 ∨ 8192 < d.toInt ∨ vo p + d.toInt < -4096 ∨ 4096 < vo p + d.toInt
    · rw [if_pos bd] at q51 ⊢
      rw [if_pos bd]
      subst q51
      exact okc_s (spo_f (by show ¬ (5 : Int) = 0; decide) (sfq_n q1))
    · rw [if_neg bd] at q51 ⊢
      rw [if_neg bd]
      have := spo_w (j := j) H hS F (show dR w ≤ 9 by have := dR_9 hd; omega) q1 q51
      rw [ht] at this
      exact okc_s this
  · rw [if_neg cn, b2_no cn]
    by_cases bad : ¬ fC w = 0 ∨ vk p = 3
    · rw [if_pos bad]
      refine okc_o (τ := σ1) ?_ (spo_f (by show ¬ (4 : Int) = 0; decide) (sfq_n q1))
      by_cases c0 : fC w = 0
      · have k3 : vk p = 3 := bad.resolve_left (not_not_intro c0)
        simp only [e250_80, Option.getD_some, Option.bind_some, Option.toList_some, Option.toList_none, List.cons_append, List.nil_append, and_self, and_true, true_and, false_and, and_false, ite_self, not_true_eq_false, not_false_eq_true, reduceIte, Nat.reduceEqDiff, ab_I, ab_L, ab_R, ao_I, ao_L, ao_R, gL_sL, gI_sI, gR_sR, gI_sL, gI_sR, gL_sI, gL_sR, gR_sI, gR_sL, c0, b2_n', b2_0', k3]
      · simp only [e250_80, Option.getD_some, Option.bind_some, Option.toList_some, Option.toList_none, List.cons_append, List.nil_append, and_self, and_true, true_and, false_and, and_false, ite_self, not_true_eq_false, not_false_eq_true, reduceIte, Nat.reduceEqDiff, ab_I, ab_L, ab_R, ao_I, ao_L, ao_R, gL_sL, gI_sI, gR_sR, gI_sL, gI_sR, gL_sI, gL_sR, gR_sI, gR_sL, c0, b2_n', b2_0']
    · rw [if_neg bad]
      have c0 : fC w = 0 := Classical.byContradiction fun z => bad (Or.inl z)
      have k3 : ¬ vk p = 3 := fun z => bad (Or.inr z)
      have kp0 : ¬ vk p = 0 := by omega
      have pa := cAt_rg S1 F.1 r10
      rw [← hp] at pa
      have l := pR_lt F r10
      have ld := pR_lt F (dR_10 (show fD w ≤ 10 by omega))
      have s136 : RR (lkB tb250) (B250_80, [some (mR (some 40)), some (mI (b2 (fC w = 0))), some (mI (vk (rgV S (dR w)))), some (mI (vk (rgtV S w))), some (mI tn), some (mI (vk p)), some (mR (some yk)), none, none], [mI 0], σ1) = RR (lkB tb250) (B250_136, [some (mR (some 40)), some (mI (b2 (fC w = 0))), some (mI (vk (rgV S (dR w)))), some (mI (vk (rgtV S w))), some (mI tn), some (mI (vk p)), some (mR (some yk)), none, none], [mI ((pR S r : Nat) : Int)], σ1) := by
        rcases tn01 with z | z
        · rw [hr, if_pos z]
          simp only [e250_80, Option.getD_some, Option.bind_some, Option.toList_some, Option.toList_none, List.cons_append, List.nil_append, and_self, and_true, true_and, false_and, and_false, ite_self, not_true_eq_false, not_false_eq_true, reduceIte, Nat.reduceEqDiff, ab_I, ab_L, ab_R, ao_I, ao_L, ao_R, gL_sL, gI_sI, gR_sR, gI_sL, gI_sR, gL_sI, gL_sR, gR_sI, gR_sL, c0, b2_n', b2_0', k3, z, T241 H1 S1 F (show fD w ≤ 10 by omega)]
        · have nz : ¬ tn = 0 := by omega
          have g : rgt w := rR (by
            by_cases y : vk (rgV S (dR w)) = 1
            · exact y
            · exfalso; rw [htn, b2_no y] at z; omega)
          rw [hr, if_neg nz]
          simp only [e250_80, e250_129, Option.getD_some, Option.bind_some, Option.toList_some, Option.toList_none, List.cons_append, List.nil_append, and_self, and_true, true_and, false_and, and_false, ite_self, not_true_eq_false, not_false_eq_true, reduceIte, Nat.reduceEqDiff, ab_I, ab_L, ab_R, ao_I, ao_L, ao_R, gL_sL, gI_sI, gR_sR, gI_sL, gI_sR, gL_sI, gL_sR, gR_sI, gR_sL, c0, b2_n', b2_0', k3, nz, T242 H1 S1 F (hs g)]
      have ne44 : ¬ k + 1 + 0 = 44 := by omega
      have t67 := T67 (σ := σ1) (k := 44) (r := k + 1 + 0) (a := pR S r) (L := 1188) (kc_44 _) (sc_k H1).2.1 ne44 (by omega) (by decide)
      rw [rd_row pa kp0] at t67
      obtain ⟨σ2, hσ2⟩ : ∃ σ2, σ2 = wC σ1 44 (vn p) := ⟨_, rfl⟩
      have q2 : nfq σ2 σ1 := by rw [hσ2]; exact nfq_w (by omega)
      rw [← hσ2] at t67
      have ry2 : rC σ2 yk = n := by rw [hσ2, rC_wC, if_neg (by omega), ry]
      have r44 : rC σ2 44 = vn p := by rw [hσ2, rC_wC, if_pos rfl]
      have ky2 : isNm σ2 yk := by rw [hσ2]; exact ky
      have t78 := T78 (σ := σ2) (k := 45) (j := 44) (i := yk) (kc_45 _) (kc_44 _) ky2 (by decide) (by omega)
      rw [r44, ry2] at t78
      have t73 := T73n (σ := σ2) (k := 45) (n := addN (vn p) n) (kc_45 _)
      obtain ⟨m, hm⟩ : ∃ m, m = tdN (addN (vn p) n) := ⟨_, rfl⟩
      rw [← hm] at t73 ⊢
      obtain ⟨σ3, hσ3⟩ : ∃ σ3, σ3 = wC σ2 45 m := ⟨_, rfl⟩
      have q3 : nfq σ3 σ := by rw [hσ3]; exact nfq_t (nfq_w (by omega)) (nfq_t q2 q1)
      rw [← hσ3] at t73
      have g45 : gL σ3 45 3 = jB m := by rw [hσ3]; exact gC3
      have r45 : rC σ3 45 = m := by rw [hσ3, rC_wC, if_pos rfl]
      have e65 : iL 65535 = 65535#64 := rfl
      rw [s136]
      by_cases big : 65535#64 < jB m
      · rw [if_pos big]
        refine okc_o (τ := σ3) ?_ (spo_f (by show ¬ (5 : Int) = 0; decide) (sfq_n q3))
        simp only [e250_136, e250_154, e250_167, e250_174, e250_188, Option.getD_some, Option.bind_some, Option.toList_some, Option.toList_none, List.cons_append, List.nil_append, and_self, and_true, true_and, false_and, and_false, ite_self, not_true_eq_false, not_false_eq_true, reduceIte, Nat.reduceEqDiff, ab_I, ab_L, ab_R, ao_I, ao_L, ao_R, gL_sL, gI_sI, gR_sR, gI_sL, gI_sR, gL_sI, gL_sR, gR_sI, gR_sL, sc_h H1, sc_ao H1, t67, t78, t73, T17, g45, e65, b2_0', not_true_eq_false, eq_true big]
      · rw [if_neg big]
        have H3 := SC_n q3 H
        have S3 := CSt_n sc q3 hS
        have pa3 := cAt_rg S3 F.1 r10
        rw [← hp] at pa3
        obtain ⟨τ1, t16, q16⟩ := T216 (a := pR S r) (b := pR S (dR w)) (sc_k H3) l ld pa3
        have H4 := SC_q (sfq_v (j := j) q16) H3
        have r45' : rC τ1 45 = m := by
          rw [← r45]
          have g : ∀ s, gL τ1 45 s = gL σ3 45 s := fun s => q16.2.1 _ _ (by omega)
          unfold rC
          rw [g, g, g, g, g, g]
        have t68 := T68 (σ := τ1) (k := 45) (r := k + 1 + 0) (a := pR S (dR w)) (L := 1188) (kc_45 _) (sc_k H4).2.1 (by omega) (by omega) (by decide)
        rw [r45'] at t68
        have qn := cx_num (n := m) q16 kp0
        obtain ⟨τ2, hτ2⟩ : ∃ τ2, τ2 = wRN τ1 (k + 1 + 0) (pR S (dR w)) m := ⟨_, rfl⟩
        rw [← hτ2] at t68 qn
        have H5 := SC_q (sfq_v (j := j) qn) H3
        have nf : ¬ 65535#64 < jB m := big
        by_cases k7 : vk p = 7
        · rw [if_pos k7]
          have l9 : pR S (dR w) + 9 < 1188 := by omega
          have l10 : pR S (dR w) + 10 < 1188 := by omega
          have m9 : pR S (dR w) + 9 < 100000 := by omega
          have m10 : pR S (dR w) + 10 < 100000 := by omega
          have wt : w32 (t + 1) = t + 1 := w32_i (by have := P.1.2.2.2.2.2.2; omega) (by have := P.2.2.2; omega)
          have d9 : dR w ≤ 9 := by have := dR_9 hd; omega
          have d10 : fD w ≤ 10 := by omega
          have w9 : w32 (((pR S (dR w) : Nat) : Int) + 9) = ((pR S (dR w) + 9 : Nat) : Int) := w_pl (c := 9) m9
          have w10 : w32 (((pR S (dR w) : Nat) : Int) + 10) = ((pR S (dR w) + 10 : Nat) : Int) := w_pl (c := 10) m10
          have g9 := gSt (sc_k H5) l9
          have q9 := cx_9 (o := 0) qn kp0
          have H6 := SC_q (sfq_v (j := j) q9) H3
          have tg : gI (sL τ2 (k + 1 + 0) (pR S (dR w) + 9) (BitVec.ofNat 64 0)) 40 8 = t := by
            have := q9.1 40 8
            rw [show gI (sL τ2 (k + 1 + 0) (pR S (dR w) + 9) (BitVec.ofNat 64 0)) 40 8 = gI σ3 40 8 from this, q3.1, ht]
          have q10 := cx_10 (o := t + 1) q9
          have tt : MM 252 [mR (some 40)] (sL τ2 (k + 1 + 0) (pR S (dR w) + 9) (BitVec.ofNat 64 0)) = some (some (mI (t + 1)), sI (sL τ2 (k + 1 + 0) (pR S (dR w) + 9) (BitVec.ofNat 64 0)) 40 8 (t + 1)) := by
            rw [T252, tg, wt]
          have h6 : gR (sL τ2 (k + 1 + 0) (pR S (dR w) + 9) (BitVec.ofNat 64 0)) 40 1 = some k := sc_h H6
          have a6 : ao (sL τ2 (k + 1 + 0) (pR S (dR w) + 9) (BitVec.ofNat 64 0)) 8 (some k) = True := sc_ao H6
          have g10 := gSt (sc_k H5) l10
          refine okc_o (τ := sL (sI (sL τ2 (k + 1 + 0) (pR S (dR w) + 9) (BitVec.ofNat 64 0)) 40 8 (t + 1)) (k + 1 + 0) (pR S (dR w) + 10) (iL (t + 1))) ?_ ?_
          · simp only [e250_136, e250_154, e250_167, e250_174, e250_188, e250_197, e250_210, e250_226, e250_263, Option.getD_some, Option.bind_some, Option.toList_some, Option.toList_none, List.cons_append, List.nil_append, and_self, and_true, true_and, false_and, and_false, ite_self, not_true_eq_false, not_false_eq_true, reduceIte, Nat.reduceEqDiff, ab_I, ab_L, ab_R, ao_I, ao_L, ao_R, gL_sL, gI_sI, gR_sR, gI_sL, gI_sR, gL_sI, gL_sR, gR_sI, gR_sL, sc_h H1, sc_ao H1, t67, t78, t73, T17, g45, e65, b2_0', eq_false nf, T241 H3 S3 F d10, sc_h H3, sc_ao H3, t16, sc_h H4, sc_ao H4, t68, k7, sc_h H5, sc_ao H5, w9, g9, Int.toNat_natCast, h6, a6, tt, w10, g10]
          · rw [sL_two]
            have sp := spo_w (j := j) H hS F d9 q3 q10
            refine ⟨sfq_t (sfq_i (by omega)) sp.1, fun z => ?_⟩
            obtain ⟨y1, y2, y3, y4⟩ := sp.2 z
            refine ⟨CSt_i sc y1, ?_, ?_, ?_⟩
            · rw [gI_sI, if_neg (by omega)]; exact y2
            · rw [gI_sI, if_neg (by omega)]; exact y3
            · rw [gI_sI, if_pos ⟨rfl, rfl⟩]
        · rw [if_neg k7]
          refine okc_o (τ := τ2) ?_ ?_
          · simp only [e250_136, e250_154, e250_167, e250_174, e250_188, e250_197, e250_210, e250_226, Option.getD_some, Option.bind_some, Option.toList_some, Option.toList_none, List.cons_append, List.nil_append, and_self, and_true, true_and, false_and, and_false, ite_self, not_true_eq_false, not_false_eq_true, reduceIte, Nat.reduceEqDiff, ab_I, ab_L, ab_R, ao_I, ao_L, ao_R, gL_sL, gI_sI, gR_sR, gI_sL, gI_sR, gL_sI, gL_sR, gR_sI, gR_sL, sc_h H1, sc_ao H1, t67, t78, t73, T17, g45, e65, b2_0', eq_false nf, T241 H3 S3 F (show fD w ≤ 10 by omega), sc_h H3, sc_ao H3, t16, sc_h H4, sc_ao H4, t68, k7]
          · have := spo_w (j := j) H hS F (show dR w ≤ 9 by have := dR_9 hd; omega) q3 qn
            rw [ht] at this
            exact this
end CAL2
-- FILE 86.calg
/-! ===== the class's ALU instructions, whole ===== -/
section CALG
variable {τ σ ρ : MS} {k j : Nat} {E : EV} {w : B64} {S : ST} {t : Int}
abbrev alQ (w : B64) : Prop := rgt w ∧ ¬ fC w = 208
abbrev alL (S : ST) (w : B64) : Int := if fC w = 176 then 1 else vk (rgV S (dR w))
abbrev alR (S : ST) (w : B64) : Int := if alQ w then vk (rgV S (sRr w)) else 1
theorem L247 (H : SC σ k j E w) (hS : CSt σ k S) (P : PX S E t) (hd : fD w ≤ 9) (hs : rgt w → fS w ≤ 10) : MM 247 [mR (some 40)] σ = RR (lkB tb247) (B247_94, [some (mR (some 40)), some (mI (fC w)), some (mI (b2 (wid w))), some (mI (b2 (alQ w))), some (mI ((pR S (dR w) : Nat) : Int)), some (mI (alL S w)), none], [mI (alR S w)], σ) := by
  have F := PX_F P
  have fp := sc_p H
  have t41 := T241 H hS F (show fD w ≤ 10 by omega)
  have t43 := T243 H
  have td := T214r H hS P (r := dR w) (dR_10 (show fD w ≤ 10 by omega))
  have s31 : MM 247 [mR (some 40)] σ = RR (lkB tb247) (B247_31, [some (mR (some 40)), some (mI (fC w)), some (mI (b2 (wid w))), none, none, none, none], [mI (b2 (rgt w))], σ) := by
    by_cases w7 : fL w = 7
    · simp only [M247, e247_0, e247_26, Option.getD_some, Option.bind_some, Option.toList_some, Option.toList_none, List.cons_append, List.nil_append, and_self, and_true, true_and, false_and, and_false, ite_self, not_true_eq_false, not_false_eq_true, reduceIte, Nat.reduceEqDiff, ab_I, ab_L, ab_R, ao_I, ao_L, ao_R, gL_sL, gI_sI, gR_sR, gI_sL, gI_sR, gL_sI, gL_sR, gR_sI, gR_sL, fp, m7, mC, w7, t43, b2_yes trivial]
      rw [b2_yes (p := wid w) w7]
    · rw [b2_no (p := wid w) w7]
      have w7' : ¬ fL w = 7 := w7
      simp only [M247, e247_0, e247_26, Option.getD_some, Option.bind_some, Option.toList_some, Option.toList_none, List.cons_append, List.nil_append, and_self, and_true, true_and, false_and, and_false, ite_self, not_true_eq_false, not_false_eq_true, reduceIte, Nat.reduceEqDiff, ab_I, ab_L, ab_R, ao_I, ao_L, ao_R, gL_sL, gI_sI, gR_sR, gI_sL, gI_sR, gL_sI, gL_sR, gR_sI, gR_sL, fp, m7, mC, w7', t43]
  have s46 : MM 247 [mR (some 40)] σ = RR (lkB tb247) (B247_46, [some (mR (some 40)), some (mI (fC w)), some (mI (b2 (wid w))), none, none, none, none], [mI (b2 (alQ w))], σ) := by
    rw [s31]
    by_cases r : rgt w
    · by_cases c : fC w = 208
      · rw [b2_no (p := alQ w) (fun z => z.2 c), b2_yes r]
        simp only [e247_31, e247_45, Option.getD_some, Option.bind_some, Option.toList_some, Option.toList_none, List.cons_append, List.nil_append, and_self, and_true, true_and, false_and, and_false, ite_self, not_true_eq_false, not_false_eq_true, reduceIte, Nat.reduceEqDiff, ab_I, ab_L, ab_R, ao_I, ao_L, ao_R, gL_sL, gI_sI, gR_sR, gI_sL, gI_sR, gL_sI, gL_sR, gR_sI, gR_sL, oneI, c]
      · rw [b2_yes (p := alQ w) ⟨r, c⟩, b2_yes r]
        simp only [e247_31, e247_45, Option.getD_some, Option.bind_some, Option.toList_some, Option.toList_none, List.cons_append, List.nil_append, and_self, and_true, true_and, false_and, and_false, ite_self, not_true_eq_false, not_false_eq_true, reduceIte, Nat.reduceEqDiff, ab_I, ab_L, ab_R, ao_I, ao_L, ao_R, gL_sL, gI_sI, gR_sR, gI_sL, gI_sR, gL_sI, gL_sR, gR_sI, gR_sL, oneI, c]
    · rw [b2_no (p := alQ w) (fun z => r z.1), b2_no r]
      simp only [e247_31, e247_45, Option.getD_some, Option.bind_some, Option.toList_some, Option.toList_none, List.cons_append, List.nil_append, and_self, and_true, true_and, false_and, and_false, ite_self, not_true_eq_false, not_false_eq_true, reduceIte, Nat.reduceEqDiff, ab_I, ab_L, ab_R, ao_I, ao_L, ao_R, gL_sL, gI_sI, gR_sR, gI_sL, gI_sR, gL_sI, gL_sR, gR_sI, gR_sL]
  have s73 : MM 247 [mR (some 40)] σ = RR (lkB tb247) (B247_73, [some (mR (some 40)), some (mI (fC w)), some (mI (b2 (wid w))), some (mI (b2 (alQ w))), some (mI ((pR S (dR w) : Nat) : Int)), none, none], [mI (alL S w)], σ) := by
    rw [s46]
    by_cases c : fC w = 176
    · rw [show alL S w = 1 from if_pos c]
      simp only [e247_46, e247_51, Option.getD_some, Option.bind_some, Option.toList_some, Option.toList_none, List.cons_append, List.nil_append, and_self, and_true, true_and, false_and, and_false, ite_self, not_true_eq_false, not_false_eq_true, reduceIte, Nat.reduceEqDiff, ab_I, ab_L, ab_R, ao_I, ao_L, ao_R, gL_sL, gI_sI, gR_sR, gI_sL, gI_sR, gL_sI, gL_sR, gR_sI, gR_sL, t41, c]
    · rw [show alL S w = vk (rgV S (dR w)) from if_neg c]
      simp only [e247_46, e247_51, Option.getD_some, Option.bind_some, Option.toList_some, Option.toList_none, List.cons_append, List.nil_append, and_self, and_true, true_and, false_and, and_false, ite_self, not_true_eq_false, not_false_eq_true, reduceIte, Nat.reduceEqDiff, ab_I, ab_L, ab_R, ao_I, ao_L, ao_R, gL_sL, gI_sI, gR_sR, gI_sL, gI_sR, gL_sI, gL_sR, gR_sI, gR_sL, t41, c, sc_h H, sc_ao H, td]
  rw [s73]
  by_cases s : alQ w
  · rw [show alR S w = vk (rgV S (sRr w)) from if_pos s, b2_yes s]
    have ts := T214r H hS P (r := sRr w) (sR_10 (hs s.1))
    simp only [e247_73, e247_87, e247_90, Option.getD_some, Option.bind_some, Option.toList_some, Option.toList_none, List.cons_append, List.nil_append, and_self, and_true, true_and, false_and, and_false, ite_self, not_true_eq_false, not_false_eq_true, reduceIte, Nat.reduceEqDiff, ab_I, ab_L, ab_R, ao_I, ao_L, ao_R, gL_sL, gI_sI, gR_sR, gI_sL, gI_sR, gL_sI, gL_sR, gR_sI, gR_sL, oneI, T242 H hS F (hs s.1), sc_h H, sc_ao H, ts]
  · rw [show alR S w = 1 from if_neg s, b2_no s]
    simp only [e247_73, Option.getD_some, Option.bind_some, Option.toList_some, Option.toList_none, List.cons_append, List.nil_append, and_self, and_true, true_and, false_and, and_false, ite_self, not_true_eq_false, not_false_eq_true, reduceIte, Nat.reduceEqDiff, ab_I, ab_L, ab_R, ao_I, ao_L, ao_R, gL_sL, gI_sI, gR_sR, gI_sL, gI_sR, gL_sI, gL_sR, gR_sI, gR_sL]
/-- a fault -/
theorem spo_e {f n t' : Int} {S' : ST} (hf : ¬ f = 0) : spo σ σ k j f S' n t' := spo_f hf (sfq_r _ _ _)
theorem T247 (H : SC σ k j E w) (hS : CSt σ k S) (P : PX S E t) (ht : gI σ 40 8 = t) (hw : okAlu w) (hl : fL w = 4 ∨ fL w = 7) : okc (MM 247 [mR (some 40)] σ) (some (mI (aluV S w t).1)) (fun τ => spo σ τ k j (aluV S w t).1 (wV S (dR w) (aluV S w t).2.1) (gI σ 40 4) (aluV S w t).2.2) := by
  have F := PX_F P
  have sc := sc_c H
  have hd : fD w ≤ 9 := hw.1.1
  have hc8 := hw.1.2
  have hs : rgt w → fS w ≤ 10 := fun r => by
    have := hw.2
    split at this
    · omega
    · split at this
      · exact absurd r this.1
      · exact this.1.1
  have hd' : dR w ≤ 9 := by have := dR_9 hd; omega
  -- the sides are numbers
  have num : (fC w = 176 ∨ vk (rgV S (dR w)) = 1) → (fC w = 208 ∨ vk (rgtV S w) = 1) → aluV S w t = (0, numV (resN w (vn (rgV S (dR w))) (vn (rgtV S w))), t) → okc (RR (lkB tb247) (B247_161, [some (mR (some 40)), some (mI (fC w)), some (mI (b2 (wid w))), some (mI (b2 (alQ w))), some (mI ((pR S (dR w) : Nat) : Int)), some (mI 1), some (mI 1)], [mI 0], σ)) (some (mI (aluV S w t).1)) (fun τ => spo σ τ k j (aluV S w t).1 (wV S (dR w) (aluV S w t).2.1) (gI σ 40 4) (aluV S w t).2.2) := fun hL hR ha => by
    obtain ⟨X, Y, t48, eX, eY⟩ := T248 H hS P (show fD w ≤ 10 by omega) hs
    obtain ⟨σ1, hσ1⟩ : ∃ σ1, σ1 = wC (wC σ 42 X) 43 Y := ⟨_, rfl⟩
    have q1 : nfq σ1 σ := by rw [hσ1]; exact nfq_t (nfq_w (by omega)) (nfq_w (by omega))
    rw [← hσ1] at t48
    have H1 := SC_n q1 H
    have r42 : rC σ1 42 = X := by rw [hσ1, rC_wC, if_neg (by decide), rC_wC, if_pos rfl]
    have r43 : rC σ1 43 = Y := by rw [hσ1, rC_wC, if_pos rfl]
    obtain ⟨τ, t49, e44, q2⟩ := T249 (σ := σ1) hw hl (sc_w H1) (sc_p H1) r42 r43
    have er : resN w X Y = resN w (vn (rgV S (dR w))) (vn (rgtV S w)) := by
      unfold resN
      by_cases c208 : fC w = 208
      · rw [if_pos c208, if_pos c208, eX (by have := hL.resolve_left (by omega); omega)]
      · have k1 := hR.resolve_left c208
        have eY := eY (fun r => by
          have e : rgtV S w = rgV S (sRr w) := if_pos r
          rw [← e]; omega)
        rw [if_neg c208, if_neg c208, eY]
        by_cases c176 : fC w = 176
        · rw [if_neg (show ¬ fC w = 128 by omega), if_neg (show ¬ fC w = 128 by omega), if_pos c176, if_pos c176]
        · rw [eX (by have := hL.resolve_left c176; omega)]
    rw [er] at e44
    have q3 := nfq_t q2 q1
    have H3 := SC_n q3 H
    obtain ⟨τ2, t18, q18⟩ := T218 (j := 44) (pl := pR S (dR w)) (sc_k H3) (kc_44 τ) (by omega) (by have := pR_lt F (dR_10 (show fD w ≤ 10 by omega)); omega)
    rw [e44] at q18
    rw [ha]
    have sp := spo_w (j := j) H hS F hd' q3 q18
    rw [ht] at sp
    refine okc_o (τ := τ2) ?_ sp
    simp only [e247_161, e247_183, e247_189, e247_202, Option.getD_some, Option.bind_some, Option.toList_some, Option.toList_none, List.cons_append, List.nil_append, and_self, and_true, true_and, false_and, and_false, ite_self, not_true_eq_false, not_false_eq_true, reduceIte, Nat.reduceEqDiff, ab_I, ab_L, ab_R, ao_I, ao_L, ao_R, gL_sL, gI_sI, gR_sR, gI_sL, gI_sR, gL_sI, gL_sR, gR_sI, gR_sL, t48, t49, sc_h H3, sc_ao H3, t18]
  have kL := PX_k P (dR_10 (show fD w ≤ 10 by omega))
  have cR : ¬ fC w = 208 → alR S w = vk (rgtV S w) := fun c => by
    unfold rgtV
    by_cases r : rgt w
    · rw [show alR S w = vk (rgV S (sRr w)) from if_pos ⟨r, c⟩, if_pos r]
    · rw [show alR S w = 1 from if_neg (fun z => r z.1), if_neg r]
      rfl
  rw [L247 H hS P hd hs]
  by_cases c208 : fC w = 208
  · -- turned bytes
    have nS : ¬ alQ w := fun z => z.2 c208
    have eR : alR S w = 1 := if_neg nS
    have eL : alL S w = vk (rgV S (dR w)) := if_neg (by omega)
    have ha : aluV S w t = (if ¬ fst (wntS (rgV S (dR w))) (wntN (rgV S (dR w)) (rgV S (dR w))) = 0 then (fst (wntS (rgV S (dR w))) (wntN (rgV S (dR w)) (rgV S (dR w))), unsV, t) else (0, numV (trnN (decide (fOp w = 212)) (fI w).toNat (vn (rgV S (dR w)))), t)) := if_pos c208
    rw [eR, eL]
    by_cases z0 : vk (rgV S (dR w)) = 0
    · have e : fst (wntS (rgV S (dR w))) (wntN (rgV S (dR w)) (rgV S (dR w))) = 3 := by
        unfold wntS
        rw [if_pos z0]
        rfl
      rw [e, if_pos (by decide)] at ha
      rw [ha]
      refine okc_o (τ := σ) ?_ (spo_e (by show ¬ (3 : Int) = 0; decide))
      simp only [e247_94, Option.getD_some, Option.bind_some, Option.toList_some, Option.toList_none, List.cons_append, List.nil_append, and_self, and_true, true_and, false_and, and_false, ite_self, not_true_eq_false, not_false_eq_true, reduceIte, Nat.reduceEqDiff, ab_I, ab_L, ab_R, ao_I, ao_L, ao_R, gL_sL, gI_sI, gR_sR, gI_sL, gI_sR, gL_sI, gL_sR, gR_sI, gR_sL, z0]
    · have ws : wntS (rgV S (dR w)) = 0 := if_neg z0
      rw [ws, fst0] at ha
      by_cases mb : isMb (rgV S (dR w))
      · have e : wntN (rgV S (dR w)) (rgV S (dR w)) = 14 := if_pos (Or.inl mb)
        rw [e, if_pos (by decide)] at ha
        rw [ha]
        refine okc_o (τ := σ) ?_ (spo_e (by show ¬ (14 : Int) = 0; decide))
        have c176 : ¬ fC w = 176 := by omega
        simp only [e247_94, e247_148, e247_153, Option.getD_some, Option.bind_some, Option.toList_some, Option.toList_none, List.cons_append, List.nil_append, and_self, and_true, true_and, false_and, and_false, ite_self, not_true_eq_false, not_false_eq_true, reduceIte, Nat.reduceEqDiff, ab_I, ab_L, ab_R, ao_I, ao_L, ao_R, gL_sL, gI_sI, gR_sR, gI_sL, gI_sR, gL_sI, gL_sR, gR_sI, gR_sL, z0, oneI, c176, T244, b2_n', eq_true mb]
      · by_cases k1 : vk (rgV S (dR w)) = 1
        · have e : wntN (rgV S (dR w)) (rgV S (dR w)) = 0 := by
            unfold wntN
            rw [if_neg (fun z => z.elim mb mb), if_neg (fun z => z.elim (fun q => q k1) (fun q => q k1))]
          rw [e, if_neg (by decide)] at ha
          have er : resN w (vn (rgV S (dR w))) (vn (rgtV S w)) = trnN (decide (fOp w = 212)) (fI w).toNat (vn (rgV S (dR w))) := if_pos c208
          have n := num (Or.inr k1) (Or.inl c208) (by rw [ha, er])
          have c176 : ¬ fC w = 176 := by omega
          have o16 : ¬ (1 : Int) = 6 ∧ ¬ (1 : Int) = 10 := by decide
          simp only [e247_94, e247_148, e247_153, Option.getD_some, Option.bind_some, Option.toList_some, Option.toList_none, List.cons_append, List.nil_append, and_self, and_true, true_and, false_and, and_false, ite_self, not_true_eq_false, not_false_eq_true, reduceIte, Nat.reduceEqDiff, ab_I, ab_L, ab_R, ao_I, ao_L, ao_R, gL_sL, gI_sI, gR_sR, gI_sL, gI_sR, gL_sI, gL_sR, gR_sI, gR_sL, k1, oneI, c176, T244, b2_n', o16.1, o16.2, or_self, b2_no not_false]
          exact n
        · have e : wntN (rgV S (dR w)) (rgV S (dR w)) = 4 := by
            unfold wntN
            rw [if_neg (fun z => z.elim mb mb), if_pos (Or.inl k1)]
          rw [e, if_pos (by decide)] at ha
          rw [ha]
          refine okc_o (τ := σ) ?_ (spo_e (by show ¬ (4 : Int) = 0; decide))
          have c176 : ¬ fC w = 176 := by omega
          have mb' : ¬ (vk (rgV S (dR w)) = 6 ∨ vk (rgV S (dR w)) = 10) := mb
          have g16 : 16 < fC w := by omega
          have o16 : ¬ (1 : Int) = 6 ∧ ¬ (1 : Int) = 10 := by decide
          by_cases w7 : wid w
          · simp only [e247_94, e247_148, e247_153, e247_161, e247_204, e247_234, Option.getD_some, Option.bind_some, Option.toList_some, Option.toList_none, List.cons_append, List.nil_append, and_self, and_true, true_and, false_and, and_false, ite_self, not_true_eq_false, not_false_eq_true, reduceIte, Nat.reduceEqDiff, ab_I, ab_L, ab_R, ao_I, ao_L, ao_R, gL_sL, gI_sI, gR_sR, gI_sL, gI_sR, gL_sI, gL_sR, gR_sI, gR_sL, z0, oneI, c176, T244, b2_n', b2_0', mb', o16.1, o16.2, or_self, k1, b2_yes w7, g16]
          · simp only [e247_94, e247_148, e247_153, e247_161, e247_204, e247_234, Option.getD_some, Option.bind_some, Option.toList_some, Option.toList_none, List.cons_append, List.nil_append, and_self, and_true, true_and, false_and, and_false, ite_self, not_true_eq_false, not_false_eq_true, reduceIte, Nat.reduceEqDiff, ab_I, ab_L, ab_R, ao_I, ao_L, ao_R, gL_sL, gI_sI, gR_sR, gI_sL, gI_sR, gL_sI, gL_sR, gR_sI, gR_sL, z0, oneI, c176, T244, b2_n', b2_0', mb', o16.1, o16.2, or_self, k1, b2_no w7]
  · have cR := cR c208
    rw [cR]
    have a0 : aluV S w t = (if ¬ fC w = 176 ∧ vk (rgV S (dR w)) = 0 then (3, unsV, t)
      else if vk (rgtV S w) = 0 then (3, unsV, t)
      else if fC w = 176 then ((movV w (rgtV S w)).1, (movV w (rgtV S w)).2, t)
      else if fC w = 128 then
        (if ¬ wntN (rgV S (dR w)) (rgV S (dR w)) = 0 then (wntN (rgV S (dR w)) (rgV S (dR w)), unsV, t)
         else if wid w then (0, numV (negN (vn (rgV S (dR w)))), t)
         else (0, numV (cutT (negN (cutT (vn (rgV S (dR w)))))), t))
      else if (wid w ∧ ¬ (isMb (rgV S (dR w)) ∨ isMb (rgtV S w))) ∧ (fC w = 0 ∨ fC w = 16) ∧ mvs (rgV S (dR w)) ∧ vk (rgtV S w) = 1 then shfV (rgV S (dR w)) (vn (rgtV S w)) (fC w) t
      else if (wid w ∧ ¬ (isMb (rgV S (dR w)) ∨ isMb (rgtV S w))) ∧ fC w = 0 ∧ vk (rgV S (dR w)) = 1 ∧ mvs (rgtV S w) then shfV (rgtV S w) (vn (rgV S (dR w))) (fC w) t
      else if ¬ wntN (rgV S (dR w)) (rgtV S w) = 0 then (wntN (rgV S (dR w)) (rgtV S w), unsV, t)
      else if wid w then (0, numV (opN (fC w) (fO w) (vn (rgV S (dR w))) (vn (rgtV S w))), t)
      else (0, numV (opW (fC w) (fO w) (vn (rgV S (dR w))) (vn (rgtV S w))), t)) := if_neg c208
    have f3 : aluV S w t = (3, unsV, t) → (alL S w = 0 ∨ vk (rgtV S w) = 0) → okc (RR (lkB tb247) (B247_94, [some (mR (some 40)), some (mI (fC w)), some (mI (b2 (wid w))), some (mI (b2 (alQ w))), some (mI ((pR S (dR w) : Nat) : Int)), some (mI (alL S w)), none], [mI (vk (rgtV S w))], σ)) (some (mI (aluV S w t).1)) (fun τ => spo σ τ k j (aluV S w t).1 (wV S (dR w) (aluV S w t).2.1) (gI σ 40 4) (aluV S w t).2.2) := fun ha h => by
      rw [ha]
      refine okc_o (τ := σ) ?_ (spo_e (by show ¬ (3 : Int) = 0; decide))
      by_cases q : alL S w = 0
      · simp only [e247_94, Option.getD_some, Option.bind_some, Option.toList_some, Option.toList_none, List.cons_append, List.nil_append, and_self, and_true, true_and, false_and, and_false, ite_self, not_true_eq_false, not_false_eq_true, reduceIte, Nat.reduceEqDiff, ab_I, ab_L, ab_R, ao_I, ao_L, ao_R, gL_sL, gI_sI, gR_sR, gI_sL, gI_sR, gL_sI, gL_sR, gR_sI, gR_sL, q]
      · have q2 := h.resolve_left q
        simp only [e247_94, Option.getD_some, Option.bind_some, Option.toList_some, Option.toList_none, List.cons_append, List.nil_append, and_self, and_true, true_and, false_and, and_false, ite_self, not_true_eq_false, not_false_eq_true, reduceIte, Nat.reduceEqDiff, ab_I, ab_L, ab_R, ao_I, ao_L, ao_R, gL_sL, gI_sI, gR_sR, gI_sL, gI_sR, gL_sI, gL_sR, gR_sI, gR_sL, q, q2]
    by_cases u1 : ¬ fC w = 176 ∧ vk (rgV S (dR w)) = 0
    · rw [if_pos u1] at a0
      exact f3 a0 (Or.inl (by rw [show alL S w = vk (rgV S (dR w)) from if_neg u1.1]; exact u1.2))
    · rw [if_neg u1] at a0
      by_cases u2 : vk (rgtV S w) = 0
      · rw [if_pos u2] at a0
        exact f3 a0 (Or.inr u2)
      · rw [if_neg u2] at a0
        have kR0 : ¬ vk (rgtV S w) = 0 := u2
        by_cases c176 : fC w = 176
        · -- moves
          rw [if_pos c176] at a0
          have eL : alL S w = 1 := if_pos c176
          rw [eL]
          by_cases mv : wid w ∧ fO w = 0
          · have e : movV w (rgtV S w) = (0, rgtV S w) := if_pos mv
            rw [e] at a0
            by_cases s : alQ w
            · -- a register, whole
              have er : rgtV S w = rgV S (sRr w) := if_pos s.1
              obtain ⟨τ, t16, q16⟩ := T216 (a := pR S (sRr w)) (b := pR S (dR w)) (sc_k H) (pR_lt F (sR_10 (hs s.1))) (pR_lt F (dR_10 (show fD w ≤ 10 by omega))) (cAt_rg hS F.1 (sR_10 (hs s.1)))
              rw [a0, er]
              have sp := spo_w (j := j) H hS F hd' (nfq_r σ) q16
              rw [ht] at sp
              refine okc_o (τ := τ) ?_ sp
              rw [er] at kR0
              simp only [e247_94, e247_130, e247_141, e247_146, Option.getD_some, Option.bind_some, Option.toList_some, Option.toList_none, List.cons_append, List.nil_append, and_self, and_true, true_and, false_and, and_false, ite_self, not_true_eq_false, not_false_eq_true, reduceIte, Nat.reduceEqDiff, ab_I, ab_L, ab_R, ao_I, ao_L, ao_R, gL_sL, gI_sI, gR_sR, gI_sL, gI_sR, gL_sI, gL_sR, gR_sI, gR_sL, oneI, kR0, c176, b2_yes mv.1, b2_yes s, sc_w H, T3, mv.2, T242 H hS F (hs s.1), sc_h H, sc_ao H, t16]
            · have nr : ¬ rgt w := fun z => s ⟨z, c208⟩
              have er : rgtV S w = numV (cstN (BitVec.ofInt 64 (fI w))) := if_neg nr
              have k1 : vk (rgtV S w) = 1 := by rw [er]; rfl
              have rs : resN w (vn (rgV S (dR w))) (vn (rgtV S w)) = vn (rgtV S w) := by
                unfold resN
                rw [if_neg c208, if_neg (by omega), if_pos c176]
                unfold movV
                rw [if_pos mv]
                rfl
              have n := num (Or.inl c176) (Or.inr k1) (by rw [a0, rs, er]; rfl)
              have o16 : ¬ (1 : Int) = 6 ∧ ¬ (1 : Int) = 10 := by decide
              rw [b2_no s] at n ⊢
              simp only [e247_94, e247_148, e247_153, Option.getD_some, Option.bind_some, Option.toList_some, Option.toList_none, List.cons_append, List.nil_append, and_self, and_true, true_and, false_and, and_false, ite_self, not_true_eq_false, not_false_eq_true, reduceIte, Nat.reduceEqDiff, ab_I, ab_L, ab_R, ao_I, ao_L, ao_R, gL_sL, gI_sI, gR_sR, gI_sL, gI_sR, gL_sI, gL_sR, gR_sI, gR_sL, oneI, k1, c176, b2_yes mv.1, T244, b2_n', o16.1, o16.2, or_self, b2_no not_false]
              rw [c176, b2_yes mv.1] at n
              exact n
          · -- cut or extended
            have s148 : RR (lkB tb247) (B247_94, [some (mR (some 40)), some (mI (fC w)), some (mI (b2 (wid w))), some (mI (b2 (alQ w))), some (mI ((pR S (dR w) : Nat) : Int)), some (mI 1), none], [mI (vk (rgtV S w))], σ) = RR (lkB tb247) (B247_148, [some (mR (some 40)), some (mI (fC w)), some (mI (b2 (wid w))), some (mI (b2 (alQ w))), some (mI ((pR S (dR w) : Nat) : Int)), some (mI 1), some (mI (vk (rgtV S w)))], [], σ) := by
              by_cases w7 : wid w
              · have o0 : ¬ fO w = 0 := fun z => mv ⟨w7, z⟩
                by_cases s : alQ w
                · simp only [e247_94, e247_130, Option.getD_some, Option.bind_some, Option.toList_some, Option.toList_none, List.cons_append, List.nil_append, and_self, and_true, true_and, false_and, and_false, ite_self, not_true_eq_false, not_false_eq_true, reduceIte, Nat.reduceEqDiff, ab_I, ab_L, ab_R, ao_I, ao_L, ao_R, gL_sL, gI_sI, gR_sR, gI_sL, gI_sR, gL_sI, gL_sR, gR_sI, gR_sL, oneI, kR0, c176, b2_yes w7, b2_yes s, sc_w H, T3, o0]
                · simp only [e247_94, Option.getD_some, Option.bind_some, Option.toList_some, Option.toList_none, List.cons_append, List.nil_append, and_self, and_true, true_and, false_and, and_false, ite_self, not_true_eq_false, not_false_eq_true, reduceIte, Nat.reduceEqDiff, ab_I, ab_L, ab_R, ao_I, ao_L, ao_R, gL_sL, gI_sI, gR_sR, gI_sL, gI_sR, gL_sI, gL_sR, gR_sI, gR_sL, oneI, kR0, c176, b2_yes w7, b2_no s]
              · simp only [e247_94, Option.getD_some, Option.bind_some, Option.toList_some, Option.toList_none, List.cons_append, List.nil_append, and_self, and_true, true_and, false_and, and_false, ite_self, not_true_eq_false, not_false_eq_true, reduceIte, Nat.reduceEqDiff, ab_I, ab_L, ab_R, ao_I, ao_L, ao_R, gL_sL, gI_sI, gR_sR, gI_sL, gI_sR, gL_sI, gL_sR, gR_sI, gR_sL, oneI, kR0, c176, b2_no w7]
            have o16 : ¬ (1 : Int) = 6 ∧ ¬ (1 : Int) = 10 := by decide
            rw [s148]
            by_cases mb : isMb (rgtV S w)
            · have e : movV w (rgtV S w) = (14, rgtV S w) := by
                unfold movV
                have wn : wntN (rgtV S w) (rgtV S w) = 14 := if_pos (Or.inl mb)
                rw [if_neg mv, wn, if_pos (by decide)]
              rw [e] at a0
              rw [a0]
              refine okc_o (τ := σ) ?_ (spo_e (by show ¬ (14 : Int) = 0; decide))
              have mb' : vk (rgtV S w) = 6 ∨ vk (rgtV S w) = 10 := mb
              simp only [e247_148, e247_153, e247_161, Option.getD_some, Option.bind_some, Option.toList_some, Option.toList_none, List.cons_append, List.nil_append, and_self, and_true, true_and, false_and, and_false, ite_self, not_true_eq_false, not_false_eq_true, reduceIte, Nat.reduceEqDiff, ab_I, ab_L, ab_R, ao_I, ao_L, ao_R, gL_sL, gI_sI, gR_sR, gI_sL, gI_sR, gL_sI, gL_sR, gR_sI, gR_sL, T244, b2_n', b2_0', o16.1, o16.2, or_self, mb']
            · have mb' : ¬ (vk (rgtV S w) = 6 ∨ vk (rgtV S w) = 10) := mb
              by_cases k1 : vk (rgtV S w) = 1
              · have wn : wntN (rgtV S w) (rgtV S w) = 0 := by
                  unfold wntN
                  rw [if_neg (fun z => z.elim mb mb), if_neg (fun z => z.elim (fun q => q k1) (fun q => q k1))]
                have rs : ((movV w (rgtV S w)).1, (movV w (rgtV S w)).2, t) = ((0 : Int), numV (resN w (vn (rgV S (dR w))) (vn (rgtV S w))), t) := by
                  unfold resN
                  rw [if_neg c208, if_neg (show ¬ fC w = 128 by omega), if_pos c176]
                  unfold movV
                  have wn' : wntN (numV (vn (rgtV S w))) (numV (vn (rgtV S w))) = 0 := rfl
                  rw [if_neg mv, if_neg mv, wn, wn']
                  by_cases o0 : fO w = 0
                  · simp only [o0, if_true, not_true_eq_false, if_false]
                    rfl
                  · by_cases w7 : wid w
                    · simp only [o0, not_true_eq_false, if_false]
                      rw [if_pos w7, if_pos w7]
                      rfl
                    · simp only [o0, not_true_eq_false, if_false]
                      rw [if_neg w7, if_neg w7]
                      rfl
                have n := num (Or.inl c176) (Or.inr k1) (by rw [a0, rs])
                rw [k1]
                simp only [e247_148, e247_153, Option.getD_some, Option.bind_some, Option.toList_some, Option.toList_none, List.cons_append, List.nil_append, and_self, and_true, true_and, false_and, and_false, ite_self, not_true_eq_false, not_false_eq_true, reduceIte, Nat.reduceEqDiff, ab_I, ab_L, ab_R, ao_I, ao_L, ao_R, gL_sL, gI_sI, gR_sR, gI_sL, gI_sR, gL_sI, gL_sR, gR_sI, gR_sL, T244, b2_n', o16.1, o16.2, or_self, b2_no not_false]
                exact n
              · have wn : wntN (rgtV S w) (rgtV S w) = 4 := by
                  unfold wntN
                  rw [if_neg (fun z => z.elim mb mb), if_pos (Or.inl k1)]
                have e : movV w (rgtV S w) = (4, rgtV S w) := by
                  unfold movV
                  rw [if_neg mv, wn, if_pos (by decide)]
                rw [e] at a0
                rw [a0]
                refine okc_o (τ := σ) ?_ (spo_e (by show ¬ (4 : Int) = 0; decide))
                have g16 : 16 < fC w := by omega
                by_cases w7 : wid w
                · simp only [e247_148, e247_153, e247_161, e247_204, e247_234, Option.getD_some, Option.bind_some, Option.toList_some, Option.toList_none, List.cons_append, List.nil_append, and_self, and_true, true_and, false_and, and_false, ite_self, not_true_eq_false, not_false_eq_true, reduceIte, Nat.reduceEqDiff, ab_I, ab_L, ab_R, ao_I, ao_L, ao_R, gL_sL, gI_sI, gR_sR, gI_sL, gI_sR, gL_sI, gL_sR, gR_sI, gR_sL, T244, b2_n', b2_0', o16.1, o16.2, or_self, mb', k1, b2_yes w7, oneI, g16]
                · simp only [e247_148, e247_153, e247_161, e247_204, e247_234, Option.getD_some, Option.bind_some, Option.toList_some, Option.toList_none, List.cons_append, List.nil_append, and_self, and_true, true_and, false_and, and_false, ite_self, not_true_eq_false, not_false_eq_true, reduceIte, Nat.reduceEqDiff, ab_I, ab_L, ab_R, ao_I, ao_L, ao_R, gL_sL, gI_sI, gR_sR, gI_sL, gI_sR, gL_sI, gL_sR, gR_sI, gR_sL, T244, b2_n', b2_0', o16.1, o16.2, or_self, mb', k1, b2_no w7]
        · -- two sides
          rw [if_neg c176] at a0
          have eL : alL S w = vk (rgV S (dR w)) := if_neg c176
          have kL0 : ¬ vk (rgV S (dR w)) = 0 := fun z => u1 ⟨c176, z⟩
          rw [eL]
          have s148 : RR (lkB tb247) (B247_94, [some (mR (some 40)), some (mI (fC w)), some (mI (b2 (wid w))), some (mI (b2 (alQ w))), some (mI ((pR S (dR w) : Nat) : Int)), some (mI (vk (rgV S (dR w)))), none], [mI (vk (rgtV S w))], σ) = RR (lkB tb247) (B247_148, [some (mR (some 40)), some (mI (fC w)), some (mI (b2 (wid w))), some (mI (b2 (alQ w))), some (mI ((pR S (dR w) : Nat) : Int)), some (mI (vk (rgV S (dR w)))), some (mI (vk (rgtV S w)))], [], σ) := by
            simp only [e247_94, Option.getD_some, Option.bind_some, Option.toList_some, Option.toList_none, List.cons_append, List.nil_append, and_self, and_true, true_and, false_and, and_false, ite_self, not_true_eq_false, not_false_eq_true, reduceIte, Nat.reduceEqDiff, ab_I, ab_L, ab_R, ao_I, ao_L, ao_R, gL_sL, gI_sI, gR_sR, gI_sL, gI_sR, gL_sI, gL_sR, gR_sI, gR_sL, kL0, kR0, c176]
          rw [s148]
          by_cases mb : isMb (rgV S (dR w)) ∨ isMb (rgtV S w)
          · have wn : ∀ x y : VL, isMb x ∨ isMb y → wntN x y = 14 := fun x y z => if_pos z
            have e : aluV S w t = (14, unsV, t) := by
              rw [a0]
              by_cases c128 : fC w = 128
              · have nr : ¬ rgt w := by
                  have := hw.2
                  rw [if_neg c208, if_pos c128] at this
                  exact this.1
                have er : rgtV S w = numV (cstN (BitVec.ofInt 64 (fI w))) := if_neg nr
                have m : isMb (rgV S (dR w)) := by
                  rcases mb with m | m
                  · exact m
                  · rw [er] at m
                    have m : (1 : Int) = 6 ∨ (1 : Int) = 10 := m
                    exfalso; omega
                rw [if_pos c128, wn _ _ (Or.inl m), if_pos (by decide)]
              · rw [if_neg c128, if_neg (fun z => z.1.2 mb), if_neg (fun z => z.1.2 mb), wn _ _ mb, if_pos (by decide)]
            rw [e]
            refine okc_o (τ := σ) ?_ (spo_e (by show ¬ (14 : Int) = 0; decide))
            by_cases m : isMb (rgV S (dR w))
            · have m' : vk (rgV S (dR w)) = 6 ∨ vk (rgV S (dR w)) = 10 := m
              simp only [e247_148, e247_153, e247_161, Option.getD_some, Option.bind_some, Option.toList_some, Option.toList_none, List.cons_append, List.nil_append, and_self, and_true, true_and, false_and, and_false, ite_self, not_true_eq_false, not_false_eq_true, reduceIte, Nat.reduceEqDiff, ab_I, ab_L, ab_R, ao_I, ao_L, ao_R, gL_sL, gI_sI, gR_sR, gI_sL, gI_sR, gL_sI, gL_sR, gR_sI, gR_sL, T244, b2_n', b2_0', m']
            · have m' : ¬ (vk (rgV S (dR w)) = 6 ∨ vk (rgV S (dR w)) = 10) := m
              have m2 : vk (rgtV S w) = 6 ∨ vk (rgtV S w) = 10 := mb.resolve_left m
              simp only [e247_148, e247_153, e247_161, Option.getD_some, Option.bind_some, Option.toList_some, Option.toList_none, List.cons_append, List.nil_append, and_self, and_true, true_and, false_and, and_false, ite_self, not_true_eq_false, not_false_eq_true, reduceIte, Nat.reduceEqDiff, ab_I, ab_L, ab_R, ao_I, ao_L, ao_R, gL_sL, gI_sI, gR_sR, gI_sL, gI_sR, gL_sI, gL_sR, gR_sI, gR_sL, T244, b2_n', b2_0', m', m2]
          · have m1 : ¬ (vk (rgV S (dR w)) = 6 ∨ vk (rgV S (dR w)) = 10) := fun z => mb (Or.inl z)
            have m2 : ¬ (vk (rgtV S w) = 6 ∨ vk (rgtV S w) = 10) := fun z => mb (Or.inr z)
            by_cases both : vk (rgV S (dR w)) = 1 ∧ vk (rgtV S w) = 1
            · have wn : ∀ x y : VL, ¬ (isMb x ∨ isMb y) → vk x = 1 → vk y = 1 → wntN x y = 0 := fun x y z a b => by
                unfold wntN
                rw [if_neg z, if_neg (fun q => q.elim (fun q => q a) (fun q => q b))]
              have e : aluV S w t = (0, numV (resN w (vn (rgV S (dR w))) (vn (rgtV S w))), t) := by
                rw [a0]
                unfold resN
                rw [if_neg c208]
                by_cases c128 : fC w = 128
                · rw [if_pos c128, if_pos c128, wn _ _ (fun z => mb (Or.inl (z.elim id id))) both.1 both.1, if_neg (by decide)]
                  split <;> rfl
                · rw [if_neg c128, if_neg c128, if_neg c176, if_neg (fun z => by
                    have m : mvs (rgV S (dR w)) := z.2.2.1
                    omega), if_neg (fun z => by
                    have m : mvs (rgtV S w) := z.2.2.2
                    omega), wn _ _ mb both.1 both.2, if_neg (by decide)]
                  split <;> rfl
              have n := num (Or.inr both.1) (Or.inr both.2) e
              rw [both.1, both.2]
              have o16 : ¬ (1 : Int) = 6 ∧ ¬ (1 : Int) = 10 := by decide
              simp only [e247_148, e247_153, Option.getD_some, Option.bind_some, Option.toList_some, Option.toList_none, List.cons_append, List.nil_append, and_self, and_true, true_and, false_and, and_false, ite_self, not_true_eq_false, not_false_eq_true, reduceIte, Nat.reduceEqDiff, ab_I, ab_L, ab_R, ao_I, ao_L, ao_R, gL_sL, gI_sI, gR_sR, gI_sL, gI_sR, gL_sI, gL_sR, gR_sI, gR_sL, T244, b2_n', o16.1, o16.2, or_self, b2_no not_false]
              exact n
            · have wn : wntN (rgV S (dR w)) (rgtV S w) = 4 := by
                unfold wntN
                rw [if_neg mb, if_pos]
                by_cases z : vk (rgV S (dR w)) = 1
                · exact Or.inr (fun y => both ⟨z, y⟩)
                · exact Or.inl z
              have s204 : RR (lkB tb247) (B247_148, [some (mR (some 40)), some (mI (fC w)), some (mI (b2 (wid w))), some (mI (b2 (alQ w))), some (mI ((pR S (dR w) : Nat) : Int)), some (mI (vk (rgV S (dR w)))), some (mI (vk (rgtV S w)))], [], σ) = RR (lkB tb247) (B247_204, [some (mR (some 40)), some (mI (fC w)), some (mI (b2 (wid w))), some (mI (b2 (alQ w))), some (mI ((pR S (dR w) : Nat) : Int)), some (mI (vk (rgV S (dR w)))), some (mI (vk (rgtV S w)))], [], σ) := by
                by_cases z : vk (rgV S (dR w)) = 1
                · have z2 : ¬ vk (rgtV S w) = 1 := fun y => both ⟨z, y⟩
                  simp only [e247_148, e247_153, e247_161, Option.getD_some, Option.bind_some, Option.toList_some, Option.toList_none, List.cons_append, List.nil_append, and_self, and_true, true_and, false_and, and_false, ite_self, not_true_eq_false, not_false_eq_true, reduceIte, Nat.reduceEqDiff, ab_I, ab_L, ab_R, ao_I, ao_L, ao_R, gL_sL, gI_sI, gR_sR, gI_sL, gI_sR, gL_sI, gL_sR, gR_sI, gR_sL, T244, b2_n', b2_0', m1, m2, z, z2, Int.reduceEq, or_self]
                · simp only [e247_148, e247_153, e247_161, Option.getD_some, Option.bind_some, Option.toList_some, Option.toList_none, List.cons_append, List.nil_append, and_self, and_true, true_and, false_and, and_false, ite_self, not_true_eq_false, not_false_eq_true, reduceIte, Nat.reduceEqDiff, ab_I, ab_L, ab_R, ao_I, ao_L, ao_R, gL_sL, gI_sI, gR_sR, gI_sL, gI_sR, gL_sI, gL_sR, gR_sI, gR_sL, T244, b2_n', b2_0', m1, m2, z]
              rw [s204]
              have e4 : aluV S w t = (4, unsV, t) → (¬ wid w ∨ ¬ (fC w = 0 ∨ fC w = 16)) → okc (RR (lkB tb247) (B247_204, [some (mR (some 40)), some (mI (fC w)), some (mI (b2 (wid w))), some (mI (b2 (alQ w))), some (mI ((pR S (dR w) : Nat) : Int)), some (mI (vk (rgV S (dR w)))), some (mI (vk (rgtV S w)))], [], σ)) (some (mI (aluV S w t).1)) (fun τ => spo σ τ k j (aluV S w t).1 (wV S (dR w) (aluV S w t).2.1) (gI σ 40 4) (aluV S w t).2.2) := fun e h => by
                rw [e]
                refine okc_o (τ := σ) ?_ (spo_e (by show ¬ (4 : Int) = 0; decide))
                by_cases w7 : wid w
                · have g16 : 16 < fC w := by
                    have := h.resolve_left (not_not_intro w7)
                    have f1 := (fld_rng w).1
                    have eC : fC w = fOp w / 16 * 16 := rfl
                    omega
                  simp only [e247_204, e247_234, Option.getD_some, Option.bind_some, Option.toList_some, Option.toList_none, List.cons_append, List.nil_append, and_self, and_true, true_and, false_and, and_false, ite_self, not_true_eq_false, not_false_eq_true, reduceIte, Nat.reduceEqDiff, ab_I, ab_L, ab_R, ao_I, ao_L, ao_R, gL_sL, gI_sI, gR_sR, gI_sL, gI_sR, gL_sI, gL_sR, gR_sI, gR_sL, b2_yes w7, oneI, g16]
                · simp only [e247_204, e247_234, Option.getD_some, Option.bind_some, Option.toList_some, Option.toList_none, List.cons_append, List.nil_append, and_self, and_true, true_and, false_and, and_false, ite_self, not_true_eq_false, not_false_eq_true, reduceIte, Nat.reduceEqDiff, ab_I, ab_L, ab_R, ao_I, ao_L, ao_R, gL_sL, gI_sI, gR_sR, gI_sL, gI_sR, gL_sI, gL_sR, gR_sI, gR_sL, b2_no w7]
              by_cases c128 : fC w = 128
              · have nr : ¬ rgt w := by
                  have := hw.2
                  rw [if_neg c208, if_pos c128] at this
                  exact this.1
                have er : rgtV S w = numV (cstN (BitVec.ofInt 64 (fI w))) := if_neg nr
                have k1 : ¬ vk (rgV S (dR w)) = 1 := fun z => both ⟨z, by rw [er]; rfl⟩
                have wn2 : wntN (rgV S (dR w)) (rgV S (dR w)) = 4 := by
                  unfold wntN
                  rw [if_neg (fun z => mb (Or.inl (z.elim id id))), if_pos (Or.inl k1)]
                rw [if_pos c128, wn2, if_pos (by decide)] at a0
                exact e4 a0 (Or.inr (by omega))
              · rw [if_neg c128] at a0
                by_cases mo : wid w ∧ (fC w = 0 ∨ fC w = 16)
                · have f1 := (fld_rng w).1
                  have eC : fC w = fOp w / 16 * 16 := rfl
                  have n16 : ¬ 16 < fC w := by omega
                  have bc : ∀ q : Prop, (if ¬ fC w = 0 then RR (lkB tb247) (B247_224, [some (mR (some 40)), some (mI (fC w)), some (mI (b2 (wid w))), some (mI (b2 (alQ w))), some (mI ((pR S (dR w) : Nat) : Int)), some (mI (vk (rgV S (dR w)))), some (mI (vk (rgtV S w)))], [mI 0, mR (some 40)], σ) else RR (lkB tb247) (B247_224, [some (mR (some 40)), some (mI (fC w)), some (mI (b2 (wid w))), some (mI (b2 (alQ w))), some (mI ((pR S (dR w) : Nat) : Int)), some (mI (vk (rgV S (dR w)))), some (mI (vk (rgtV S w)))], [mI 1, mR (some 40)], σ)) = RR (lkB tb247) (B247_224, [some (mR (some 40)), some (mI (fC w)), some (mI (b2 (wid w))), some (mI (b2 (alQ w))), some (mI ((pR S (dR w) : Nat) : Int)), some (mI (vk (rgV S (dR w)))), some (mI (vk (rgtV S w)))], [mI (b2 (fC w = 0)), mR (some 40)], σ) := fun _ => by
                    by_cases c0 : fC w = 0
                    · rw [if_neg (not_not_intro c0), b2_yes c0]
                    · rw [if_pos c0, b2_no c0]
                  have s224 : RR (lkB tb247) (B247_204, [some (mR (some 40)), some (mI (fC w)), some (mI (b2 (wid w))), some (mI (b2 (alQ w))), some (mI ((pR S (dR w) : Nat) : Int)), some (mI (vk (rgV S (dR w)))), some (mI (vk (rgtV S w)))], [], σ) = RR (lkB tb247) (B247_224, [some (mR (some 40)), some (mI (fC w)), some (mI (b2 (wid w))), some (mI (b2 (alQ w))), some (mI ((pR S (dR w) : Nat) : Int)), some (mI (vk (rgV S (dR w)))), some (mI (vk (rgtV S w)))], [mI (b2 (fC w = 0)), mR (some 40)], σ) := by
                    rw [e247_204, if_neg (by rw [b2_yes mo.1]; decide), if_neg n16]
                    exact bc True
                  rw [s224]
                  by_cases sh : okSh S w
                  · have e : aluV S w t = shfR S w t := by
                      rw [a0]
                      unfold shfR
                      rcases sh with q | q
                      · have n1 : ¬ vk (rgV S (dR w)) = 1 := by have m : mvs (rgV S (dR w)) := q.1; omega
                        rw [if_pos ⟨⟨mo.1, mb⟩, mo.2, q⟩, if_neg n1]
                      · have nm : ¬ mvs (rgV S (dR w)) := fun (m : vk (rgV S (dR w)) = 3 ∨ vk (rgV S (dR w)) = 5 ∨ vk (rgV S (dR w)) = 7 ∨ vk (rgV S (dR w)) = 9) => by have := q.2.1; omega
                        rw [if_neg (fun z => nm z.2.2.1), if_pos ⟨⟨mo.1, mb⟩, q⟩, if_pos q.2.1]
                    obtain ⟨τ, t50, q50⟩ := T250 H hS P ht hd hs mo.2 sh
                    rw [e]
                    refine okc_o (τ := τ) ?_ q50
                    simp only [e247_224, e247_231, Option.getD_some, Option.bind_some, Option.toList_some, Option.toList_none, List.cons_append, List.nil_append, and_self, and_true, true_and, false_and, and_false, ite_self, not_true_eq_false, not_false_eq_true, reduceIte, Nat.reduceEqDiff, ab_I, ab_L, ab_R, ao_I, ao_L, ao_R, gL_sL, gI_sI, gR_sR, gI_sL, gI_sR, gL_sI, gL_sR, gR_sI, gR_sL, t50]
                  · have e : aluV S w t = (4, unsV, t) := by
                      rw [a0, if_neg (fun z => sh (Or.inl z.2.2)), if_neg (fun z => sh (Or.inr z.2)), wn, if_pos (by decide)]
                    have t50 := T250n (σ := σ) mo.2 sh both
                    rw [e]
                    refine okc_o (τ := σ) ?_ (spo_e (by show ¬ (4 : Int) = 0; decide))
                    simp only [e247_224, e247_231, Option.getD_some, Option.bind_some, Option.toList_some, Option.toList_none, List.cons_append, List.nil_append, and_self, and_true, true_and, false_and, and_false, ite_self, not_true_eq_false, not_false_eq_true, reduceIte, Nat.reduceEqDiff, ab_I, ab_L, ab_R, ao_I, ao_L, ao_R, gL_sL, gI_sI, gR_sR, gI_sL, gI_sR, gL_sI, gL_sR, gR_sI, gR_sL, t50]
                · rw [if_neg (fun z => mo ⟨z.1.1, z.2.1⟩), if_neg (fun z => mo ⟨z.1.1, Or.inl z.2.1⟩), wn, if_pos (by decide)] at a0
                  refine e4 a0 ?_
                  by_cases w7 : wid w
                  · exact Or.inr (fun z => mo ⟨w7, z⟩)
                  · exact Or.inl w7
end CALG
-- FILE 87.clod
/-! ===== the class's loads ===== -/
section CLOD
variable {τ σ ρ : MS} {k j pl : Nat} {E : EV} {w : B64} {S : ST} {t a b n z : Int} {v : VL}
theorem wp7 {pl : Nat} (h : pl + 7 < 100000) : w32 ((pl : Int) + 7) = ((pl + 7 : Nat) : Int) := w_pl (c := 7) h
theorem wp8 {pl : Nat} (h : pl + 8 < 100000) : w32 ((pl : Int) + 8) = ((pl + 8 : Nat) : Int) := w_pl (c := 8) h
theorem wp9 {pl : Nat} (h : pl + 9 < 100000) : w32 ((pl : Int) + 9) = ((pl + 9 : Nat) : Int) := w_pl (c := 9) h
theorem wp10 {pl : Nat} (h : pl + 10 < 100000) : w32 ((pl : Int) + 10) = ((pl + 10 : Nat) : Int) := w_pl (c := 10) h
theorem b2_eq {p q : Prop} {dp : Decidable p} [dq : Decidable q] (h : p = q) : @b2 p dp = @b2 q dq := by
  subst h
  rw [Subsingleton.elim dp dq]
theorem T5 : MM 5 [mI (fOp w)] σ = some (some (mI ((bytN w : Nat) : Int)), σ) := by
  have f := fld_rng w
  have r : fB w = 0 ∨ fB w = 1 ∨ fB w = 2 ∨ fB w = 3 := by unfold fB; omega
  rcases r with c | c | c | c
  · have e : iAnd (fOp w) 24 = 0 := by rw [m24, c]; rfl
    simp only [M5, e5_0, Option.getD_some, Option.bind_some, Option.toList_some, Option.toList_none, List.cons_append, List.nil_append, and_self, and_true, true_and, false_and, and_false, ite_self, not_true_eq_false, not_false_eq_true, reduceIte, Nat.reduceEqDiff, ab_I, ab_L, ab_R, ao_I, ao_L, ao_R, gL_sL, gI_sI, gR_sR, gI_sL, gI_sR, gL_sI, gL_sR, gR_sI, gR_sL, e, bytN, c]
    rfl
  · have e : iAnd (fOp w) 24 = 8 := by rw [m24, c]; rfl
    simp only [M5, e5_0, Option.getD_some, Option.bind_some, Option.toList_some, Option.toList_none, List.cons_append, List.nil_append, and_self, and_true, true_and, false_and, and_false, ite_self, not_true_eq_false, not_false_eq_true, reduceIte, Nat.reduceEqDiff, ab_I, ab_L, ab_R, ao_I, ao_L, ao_R, gL_sL, gI_sI, gR_sR, gI_sL, gI_sR, gL_sI, gL_sR, gR_sI, gR_sL, e, bytN, c, Int.reduceEq]
    rfl
  · have e : iAnd (fOp w) 24 = 16 := by rw [m24, c]; rfl
    simp only [M5, e5_0, Option.getD_some, Option.bind_some, Option.toList_some, Option.toList_none, List.cons_append, List.nil_append, and_self, and_true, true_and, false_and, and_false, ite_self, not_true_eq_false, not_false_eq_true, reduceIte, Nat.reduceEqDiff, ab_I, ab_L, ab_R, ao_I, ao_L, ao_R, gL_sL, gI_sI, gR_sR, gI_sL, gI_sR, gL_sI, gL_sR, gR_sI, gR_sL, e, bytN, c, Int.reduceEq]
    rfl
  · have e : iAnd (fOp w) 24 = 24 := by rw [m24, c]; rfl
    simp only [M5, e5_0, Option.getD_some, Option.bind_some, Option.toList_some, Option.toList_none, List.cons_append, List.nil_append, and_self, and_true, true_and, false_and, and_false, ite_self, not_true_eq_false, not_false_eq_true, reduceIte, Nat.reduceEqDiff, ab_I, ab_L, ab_R, ao_I, ao_L, ao_R, gL_sL, gI_sI, gR_sR, gI_sL, gI_sR, gL_sI, gL_sR, gR_sI, gR_sL, e, bytN, c, Int.reduceEq]
    rfl
theorem iLn (x : Int) : -(iL x) = iL (-x) := (BitVec.ofInt_neg).symm
theorem T254 (H : SC σ k j E w) (hp : pl + 11 ≤ 1188) (hv : cAt σ k pl v) (hz : -100000 ≤ z ∧ z ≤ 100000) : MM 254 [mR (some 40), mI (pl : Int), mL (iL a), mL (iL n), mL (iL z)] σ = some (some (mI (b2 (0 ≤ (iL a + jA (vn v)).toInt ∧ (iL a + jB (vn v) + iL n).toInt ≤ z))), σ) := by
  have k1 := sc_k H
  have w3 : w32 ((pl : Int) + 3) = ((pl + 3 : Nat) : Int) := w_pl (c := 3) (by omega)
  have w4 : w32 ((pl : Int) + 4) = ((pl + 4 : Nat) : Int) := w_pl (c := 4) (by omega)
  have g3 := gSt k1 (show pl + 3 < 1188 by omega)
  have g4 := gSt k1 (show pl + 4 < 1188 by omega)
  have z0 : BitVec.toInt (BitVec.ofNat 64 0) = 0 := rfl
  have ez : (iL z).toInt = z := iLt (by omega) (by omega)
  by_cases c1 : (iL a + jA (vn v)).toInt < 0
  · rw [b2_no (fun y => absurd y.1 (by omega))]
    simp only [M254, e254_0, e254_44, Option.getD_some, Option.bind_some, Option.toList_some, Option.toList_none, List.cons_append, List.nil_append, and_self, and_true, true_and, false_and, and_false, ite_self, not_true_eq_false, not_false_eq_true, reduceIte, Nat.reduceEqDiff, ab_I, ab_L, ab_R, ao_I, ao_L, ao_R, gL_sL, gI_sI, gR_sR, gI_sL, gI_sR, gL_sI, gL_sR, gR_sI, gR_sL, sc_h H, sc_ao H, w3, g3, Int.toNat_natCast, rd_3 hv, z0, eq_true c1]
  · by_cases c2 : z < (iL a + jB (vn v) + iL n).toInt
    · rw [b2_no (fun y => absurd y.2 (by omega))]
      simp only [M254, e254_0, e254_44, Option.getD_some, Option.bind_some, Option.toList_some, Option.toList_none, List.cons_append, List.nil_append, and_self, and_true, true_and, false_and, and_false, ite_self, not_true_eq_false, not_false_eq_true, reduceIte, Nat.reduceEqDiff, ab_I, ab_L, ab_R, ao_I, ao_L, ao_R, gL_sL, gI_sI, gR_sR, gI_sL, gI_sR, gL_sI, gL_sR, gR_sI, gR_sL, sc_h H, sc_ao H, w3, w4, g3, g4, Int.toNat_natCast, rd_3 hv, rd_4 hv, z0, c1, ez, eq_true c2]
    · rw [b2_yes ⟨by omega, by omega⟩]
      simp only [M254, e254_0, Option.getD_some, Option.bind_some, Option.toList_some, Option.toList_none, List.cons_append, List.nil_append, and_self, and_true, true_and, false_and, and_false, ite_self, not_true_eq_false, not_false_eq_true, reduceIte, Nat.reduceEqDiff, ab_I, ab_L, ab_R, ao_I, ao_L, ao_R, gL_sL, gI_sI, gR_sR, gI_sL, gI_sR, gL_sI, gL_sR, gR_sI, gR_sL, sc_h H, sc_ao H, w3, w4, g3, g4, Int.toNat_natCast, rd_3 hv, rd_4 hv, z0, c1, ez, c2]
theorem T253 {g : Nat} (H : SC σ k j E w) (hp : pl + 11 ≤ 1188) (hv : cAt σ k pl v) (wv : okW v) (ov : okV E g t v) (mv : mvs v) (hb : -40000 ≤ b ∧ b ≤ 40000) (hn : 0 ≤ n ∧ n ≤ 1000) : MM 253 [mR (some 40), mI (pl : Int), mL (iL b), mL (iL n)] σ = some (some (mI (b2 (room E v b n))), σ) := by
  have k1 := sc_k H
  have w7 : w32 ((pl : Int) + 7) = ((pl + 7 : Nat) : Int) := w_pl (c := 7) (by omega)
  have w8 : w32 ((pl : Int) + 8) = ((pl + 8 : Nat) : Int) := w_pl (c := 8) (by omega)
  have w9 : w32 ((pl : Int) + 9) = ((pl + 9 : Nat) : Int) := w_pl (c := 9) (by omega)
  have g7 := gSt k1 (show pl + 7 < 1188 by omega)
  have g8 := gSt k1 (show pl + 8 < 1188 by omega)
  have g9 := gSt k1 (show pl + 9 < 1188 by omega)
  have t14 := T214 k1 (show pl < 1188 by omega) hv wv.1
  have wo := wv.2.2.2.1
  have wr := wv.2.2.2.2.1
  have ww := wv.2.2.1
  have r7 : gL σ (k + 1 + 0) (pl + 7) + iL b = iL (vo v + b) := by rw [rd_7 hv, iLa]
  have s28 : MM 253 [mR (some 40), mI (pl : Int), mL (iL b), mL (iL n)] σ = RR (lkB tb253) (B253_28, [some (mR (some 40)), some (mI (pl : Int)), some (mL (iL b)), none, some (mL (iL n)), none, some (mR (some (k + 1 + 0))), some (mL (iL (vo v + b))), none], [mI (vk v)], σ) := by
    simp only [M253, e253_0, Option.getD_some, Option.bind_some, Option.toList_some, Option.toList_none, List.cons_append, List.nil_append, and_self, and_true, true_and, false_and, and_false, ite_self, not_true_eq_false, not_false_eq_true, reduceIte, Nat.reduceEqDiff, ab_I, ab_L, ab_R, ao_I, ao_L, ao_R, gL_sL, gI_sI, gR_sR, gI_sL, gI_sR, gL_sI, gL_sR, gR_sI, gR_sL, sc_h H, sc_ao H, w7, g7, Int.toNat_natCast, r7, t14]
  have c128 : (BitVec.toInt (iL (vo v + b)) < BitVec.toInt (iL (-128))) = (vo v + b < -128) := by rw [iLt (by omega) (by omega), iLt (by decide) (by decide)]
  have cn : (BitVec.toInt (iL 128) < BitVec.toInt (iL n)) = (128 < n) := by rw [iLt (by decide) (by decide), iLt (by omega) (by omega)]
  have cm : (BitVec.toInt (-(iL n)) < BitVec.toInt (iL (vo v + b))) = (-n < vo v + b) := by rw [iLn, iLt (by omega) (by omega), iLt (by omega) (by omega)]
  rcases mv with m | m | m | m
  · have er : room E v b n = (-128 ≤ vo v + b ∧ vo v + b ≤ -n) := if_pos m
    rw [m] at s28
    rw [s28]
    by_cases d1 : vo v + b < -128
    · rw [b2_no (p := room E v b n) (by rw [er]; omega)]
      simp only [e253_28, e253_95, Option.getD_some, Option.bind_some, Option.toList_some, Option.toList_none, List.cons_append, List.nil_append, and_self, and_true, true_and, false_and, and_false, ite_self, not_true_eq_false, not_false_eq_true, reduceIte, Nat.reduceEqDiff, ab_I, ab_L, ab_R, ao_I, ao_L, ao_R, gL_sL, gI_sI, gR_sR, gI_sL, gI_sR, gL_sI, gL_sR, gR_sI, gR_sL, c128, eq_true d1]
    · by_cases d2 : 128 < n
      · rw [b2_no (p := room E v b n) (by rw [er]; omega)]
        simp only [e253_28, e253_95, Option.getD_some, Option.bind_some, Option.toList_some, Option.toList_none, List.cons_append, List.nil_append, and_self, and_true, true_and, false_and, and_false, ite_self, not_true_eq_false, not_false_eq_true, reduceIte, Nat.reduceEqDiff, ab_I, ab_L, ab_R, ao_I, ao_L, ao_R, gL_sL, gI_sI, gR_sR, gI_sL, gI_sR, gL_sI, gL_sR, gR_sI, gR_sL, c128, d1, cn, eq_true d2]
      · by_cases d3 : -n < vo v + b
        · rw [b2_no (p := room E v b n) (by rw [er]; omega)]
          simp only [e253_28, e253_95, Option.getD_some, Option.bind_some, Option.toList_some, Option.toList_none, List.cons_append, List.nil_append, and_self, and_true, true_and, false_and, and_false, ite_self, not_true_eq_false, not_false_eq_true, reduceIte, Nat.reduceEqDiff, ab_I, ab_L, ab_R, ao_I, ao_L, ao_R, gL_sL, gI_sI, gR_sR, gI_sL, gI_sR, gL_sI, gL_sR, gR_sI, gR_sL, c128, d1, cn, d2, cm, eq_true d3]
        · rw [b2_yes (p := room E v b n) (by rw [er]; omega)]
          simp only [e253_28, Option.getD_some, Option.bind_some, Option.toList_some, Option.toList_none, List.cons_append, List.nil_append, and_self, and_true, true_and, false_and, and_false, ite_self, not_true_eq_false, not_false_eq_true, reduceIte, Nat.reduceEqDiff, ab_I, ab_L, ab_R, ao_I, ao_L, ao_R, gL_sL, gI_sI, gR_sR, gI_sL, gI_sR, gL_sI, gL_sR, gR_sI, gR_sL, c128, d1, cn, d2, cm, d3]
  · have er : room E v b n = (0 ≤ (iL (vo v + b) + jA (vn v)).toInt ∧ (iL (vo v + b) + jB (vn v) + iL n).toInt ≤ E.2.2 (vw v).toNat) := by
      unfold room
      rw [if_neg (by omega), if_neg (by omega), if_pos m]
      rfl
    have o5 := ov.2.2.2.2.1 (Or.inl m)
    have lw : lI (iL (vw v)) = vw v := lIi (by omega) (by omega)
    have a7 : iAnd (vw v) 7 = vw v := by rw [iAnd7]; omega
    have b7 : 0 ≤ vw v ∧ vw v < 8 := by omega
    have ce := (H.2.2.2.1 (vw v).toNat (by omega)).2.1
    have t54 := T254 (a := vo v + b) (n := n) (z := E.2.2 (vw v).toNat) H hp hv (by omega)
    rw [m] at s28
    rw [s28, b2_eq er]
    simp only [e253_28, e253_155, Option.getD_some, Option.bind_some, Option.toList_some, Option.toList_none, List.cons_append, List.nil_append, and_self, and_true, true_and, false_and, and_false, ite_self, not_true_eq_false, not_false_eq_true, reduceIte, Nat.reduceEqDiff, ab_I, ab_L, ab_R, ao_I, ao_L, ao_R, gL_sL, gI_sI, gR_sR, gI_sL, gI_sR, gL_sI, gL_sR, gR_sI, gR_sL, Int.reduceEq, w8, g8, Int.toNat_natCast, rd_8 hv, lw, a7, g_32, b7.1, b7.2, ce, t54, bl_b2]
  · have er : room E v b n = (0 ≤ vo v + b ∧ vo v + b + n ≤ vr v) := by
      unfold room
      rw [if_neg (by omega), if_pos m]
    have z0 : BitVec.toInt (BitVec.ofNat 64 0) = 0 := rfl
    have eo : BitVec.toInt (iL (vo v + b)) = vo v + b := iLt (by omega) (by omega)
    have es : (BitVec.toInt (iL (vr v)) < BitVec.toInt (iL (vo v + b) + iL n)) = (vr v < vo v + b + n) := by rw [iLa, iLt (by omega) (by omega), iLt (by omega) (by omega)]
    have r9 : gL σ (k + 1 + 0) (pl + 9) = iL (vr v) := by rw [rd_9 hv wv.2.2.2.2.2, if_neg (by omega)]
    rw [m] at s28
    rw [s28]
    by_cases d1 : vo v + b < 0
    · rw [b2_no (p := room E v b n) (by rw [er]; omega)]
      simp only [e253_28, e253_124, Option.getD_some, Option.bind_some, Option.toList_some, Option.toList_none, List.cons_append, List.nil_append, and_self, and_true, true_and, false_and, and_false, ite_self, not_true_eq_false, not_false_eq_true, reduceIte, Nat.reduceEqDiff, ab_I, ab_L, ab_R, ao_I, ao_L, ao_R, gL_sL, gI_sI, gR_sR, gI_sL, gI_sR, gL_sI, gL_sR, gR_sI, gR_sL, Int.reduceEq, z0, eo, eq_true d1]
    · by_cases d2 : vr v < vo v + b + n
      · rw [b2_no (p := room E v b n) (by rw [er]; omega)]
        simp only [e253_28, e253_124, Option.getD_some, Option.bind_some, Option.toList_some, Option.toList_none, List.cons_append, List.nil_append, and_self, and_true, true_and, false_and, and_false, ite_self, not_true_eq_false, not_false_eq_true, reduceIte, Nat.reduceEqDiff, ab_I, ab_L, ab_R, ao_I, ao_L, ao_R, gL_sL, gI_sI, gR_sR, gI_sL, gI_sR, gL_sI, gL_sR, gR_sI, gR_sL, Int.reduceEq, z0, eo, d1, w9, g9, Int.toNat_natCast, r9, es, eq_true d2]
      · rw [b2_yes (p := room E v b n) (by rw [er]; omega)]
        simp only [e253_28, Option.getD_some, Option.bind_some, Option.toList_some, Option.toList_none, List.cons_append, List.nil_append, and_self, and_true, true_and, false_and, and_false, ite_self, not_true_eq_false, not_false_eq_true, reduceIte, Nat.reduceEqDiff, ab_I, ab_L, ab_R, ao_I, ao_L, ao_R, gL_sL, gI_sI, gR_sR, gI_sL, gI_sR, gL_sI, gL_sR, gR_sI, gR_sL, Int.reduceEq, z0, eo, d1, w9, g9, Int.toNat_natCast, r9, es, d2]
  · have er : room E v b n = (0 ≤ (iL (vo v + b) + jA (vn v)).toInt ∧ (iL (vo v + b) + jB (vn v) + iL n).toInt ≤ vw v) := by
      unfold room
      rw [if_neg (by omega), if_neg (by omega), if_neg (by omega)]
      rfl
    have t54 := T254 (a := vo v + b) (n := n) (z := vw v) H hp hv (by omega)
    rw [m] at s28
    rw [s28, b2_eq er]
    simp only [e253_28, e253_172, Option.getD_some, Option.bind_some, Option.toList_some, Option.toList_none, List.cons_append, List.nil_append, and_self, and_true, true_and, false_and, and_false, ite_self, not_true_eq_false, not_false_eq_true, reduceIte, Nat.reduceEqDiff, ab_I, ab_L, ab_R, ao_I, ao_L, ao_R, gL_sL, gI_sI, gR_sR, gI_sL, gI_sR, gL_sI, gL_sR, gR_sI, gR_sL, Int.reduceEq, w8, g8, Int.toNat_natCast, rd_8 hv, t54, bl_b2]
/-- the load's answer comes to D -/
theorem L255w {m : N6} (H : SC σ k j E w) (hS : CSt σ k S) (P : PX S E t) (ht : gI σ 40 8 = t) (hd : fD w ≤ 9) {L : List (Option MV)} {o : Option Rs} (h : (∀ τ' : MS, MM 241 [mR (some 40)] (wC σ 42 m) = some (some (mI ((pR S (dR w) : Nat) : Int)), wC σ 42 m) → MM 218 [mR (some k), mI ((pR S (dR w) : Nat) : Int), mR (some 42)] (wC σ 42 m) = some (none, τ') → gR (wC σ 42 m) 40 1 = some k → ao (wC σ 42 m) 8 (some k) = True → o = some (some (mI 0), τ'))) : okc o (some (mI 0)) (fun τ => spo σ τ k j 0 (wV S (dR w) (numV m)) (gI σ 40 4) t) := by
  have F := PX_F P
  have q1 : nfq (wC σ 42 m) σ := nfq_w (by omega)
  have H1 := SC_n q1 H
  have S1 := CSt_n (sc_c H) q1 hS
  have hd' : dR w ≤ 9 := by have := dR_9 hd; omega
  have sc := sc_c H
  obtain ⟨τ, t18, q18⟩ := T218 (j := 42) (pl := pR S (dR w)) (sc_k H1) (kc_42 (wC σ 42 m)) (by omega) (pR_lt F (by omega))
  rw [rC_wC, if_pos rfl] at q18
  have sp := spo_w (j := j) H hS F hd' q1 q18
  rw [ht] at sp
  exact okc_o (h τ (T241 H1 S1 F (by omega)) t18 (sc_h H1) (sc_ao H1)) sp
theorem T256 (H : SC σ k j E w) (hS : CSt σ k S) (P : PX S E t) (ht : gI σ 40 8 = t) (hd : fD w ≤ 9) : okc (MM 256 [mR (some 40), mI (fO w)] σ) (some (mI (if 0 ≤ fO w ∧ fO w ≤ 16 ∧ fO w % 4 = 0 then 0 else 9))) (fun τ => spo σ τ k j (if 0 ≤ fO w ∧ fO w ≤ 16 ∧ fO w % 4 = 0 then 0 else 9) (wV S (dR w) (if fO w ≤ 4 then mkV (if fO w = 0 then 7 else 8) 0 0 else numV (wideN 4))) (gI σ 40 4) t) := by
  have F := PX_F P
  have hd' : dR w ≤ 9 := by have := dR_9 hd; omega
  have t41 := T241 H hS F (show fD w ≤ 10 by omega)
  have l := pR_lt F (show dR w ≤ 10 by omega)
  have mk : ∀ kn : Int, ∃ τ, MM 217 [mR (some k), mI ((pR S (dR w) : Nat) : Int), mI kn, mL (BitVec.ofNat 64 0), mI 0] σ = some (none, τ) ∧ spo σ τ k j 0 (wV S (dR w) (mkV kn 0 0)) (gI σ 40 4) t := fun kn => by
    obtain ⟨τ, t17, q17⟩ := T217 (kn := kn) (w := 0) (t := 0) (sc_k H) l
    have sp := spo_w (j := j) H hS F hd' (nfq_r σ) q17
    rw [ht] at sp
    exact ⟨τ, t17, sp⟩
  have num : ∀ o : Option Rs, (∀ τ' : MS, MM 241 [mR (some 40)] (wC σ 42 (wideN 4)) = some (some (mI ((pR S (dR w) : Nat) : Int)), wC σ 42 (wideN 4)) → MM 218 [mR (some k), mI ((pR S (dR w) : Nat) : Int), mR (some 42)] (wC σ 42 (wideN 4)) = some (none, τ') → gR (wC σ 42 (wideN 4)) 40 1 = some k → ao (wC σ 42 (wideN 4)) 8 (some k) = True → o = some (some (mI 0), τ')) → okc o (some (mI 0)) (fun τ => spo σ τ k j 0 (wV S (dR w) (numV (wideN 4))) (gI σ 40 4) t) := fun o h => L255w H hS P ht hd (L := []) h
  have t63 : MM 63 [mR (some 42), mI 4] σ = some (none, wC σ 42 (wideN 4)) := T63 (n := 4) (kc_42 σ) (by decide)
  by_cases c0 : fO w = 0
  · obtain ⟨τ, e, sp⟩ := mk 7
    rw [if_pos (show 0 ≤ fO w ∧ fO w ≤ 16 ∧ fO w % 4 = 0 by omega), if_pos (show fO w ≤ 4 by omega), if_pos c0]
    refine okc_o (τ := τ) ?_ sp
    simp only [M256, e256_0, e256_60, e256_67, Option.getD_some, Option.bind_some, Option.toList_some, Option.toList_none, List.cons_append, List.nil_append, and_self, and_true, true_and, false_and, and_false, ite_self, not_true_eq_false, not_false_eq_true, reduceIte, Nat.reduceEqDiff, ab_I, ab_L, ab_R, ao_I, ao_L, ao_R, gL_sL, gI_sI, gR_sR, gI_sL, gI_sR, gL_sI, gL_sR, gR_sI, gR_sL, c0, t41, sc_h H, sc_ao H, e]
  · by_cases c4 : fO w = 4
    · obtain ⟨τ, e, sp⟩ := mk 8
      rw [if_pos (show 0 ≤ fO w ∧ fO w ≤ 16 ∧ fO w % 4 = 0 by omega), if_pos (show fO w ≤ 4 by omega), if_neg c0]
      refine okc_o (τ := τ) ?_ sp
      simp only [M256, e256_0, e256_77, e256_84, Option.getD_some, Option.bind_some, Option.toList_some, Option.toList_none, List.cons_append, List.nil_append, and_self, and_true, true_and, false_and, and_false, ite_self, not_true_eq_false, not_false_eq_true, reduceIte, Nat.reduceEqDiff, ab_I, ab_L, ab_R, ao_I, ao_L, ao_R, gL_sL, gI_sI, gR_sR, gI_sL, gI_sR, gL_sI, gL_sR, gR_sI, gR_sL, c4, Int.reduceEq, t41, sc_h H, sc_ao H, e]
    · by_cases c8 : fO w = 8 ∨ fO w = 12 ∨ fO w = 16
      · rw [if_pos (show 0 ≤ fO w ∧ fO w ≤ 16 ∧ fO w % 4 = 0 by omega), if_neg (show ¬ fO w ≤ 4 by omega)]
        rcases c8 with c | c | c
        · refine num _ fun τ' a1 a2 a3 a4 => ?_
          simp only [M256, e256_0, e256_94, e256_102, e256_109, Option.getD_some, Option.bind_some, Option.toList_some, Option.toList_none, List.cons_append, List.nil_append, and_self, and_true, true_and, false_and, and_false, ite_self, not_true_eq_false, not_false_eq_true, reduceIte, Nat.reduceEqDiff, ab_I, ab_L, ab_R, ao_I, ao_L, ao_R, gL_sL, gI_sI, gR_sR, gI_sL, gI_sR, gL_sI, gL_sR, gR_sI, gR_sL, c, Int.reduceEq, t63, a1, a2, a3, a4]
        · refine num _ fun τ' a1 a2 a3 a4 => ?_
          simp only [M256, e256_0, e256_94, e256_102, e256_109, Option.getD_some, Option.bind_some, Option.toList_some, Option.toList_none, List.cons_append, List.nil_append, and_self, and_true, true_and, false_and, and_false, ite_self, not_true_eq_false, not_false_eq_true, reduceIte, Nat.reduceEqDiff, ab_I, ab_L, ab_R, ao_I, ao_L, ao_R, gL_sL, gI_sI, gR_sR, gI_sL, gI_sR, gL_sI, gL_sR, gR_sI, gR_sL, c, Int.reduceEq, t63, a1, a2, a3, a4]
        · refine num _ fun τ' a1 a2 a3 a4 => ?_
          simp only [M256, e256_0, e256_94, e256_102, e256_109, Option.getD_some, Option.bind_some, Option.toList_some, Option.toList_none, List.cons_append, List.nil_append, and_self, and_true, true_and, false_and, and_false, ite_self, not_true_eq_false, not_false_eq_true, reduceIte, Nat.reduceEqDiff, ab_I, ab_L, ab_R, ao_I, ao_L, ao_R, gL_sL, gI_sI, gR_sR, gI_sL, gI_sR, gL_sI, gL_sR, gR_sI, gR_sL, c, Int.reduceEq, t63, a1, a2, a3, a4]
      · have d8 : ¬ fO w = 8 := fun z => c8 (Or.inl z)
        have d12 : ¬ fO w = 12 := fun z => c8 (Or.inr (Or.inl z))
        have d16 : ¬ fO w = 16 := fun z => c8 (Or.inr (Or.inr z))
        rw [if_neg (show ¬ (0 ≤ fO w ∧ fO w ≤ 16 ∧ fO w % 4 = 0) by omega)]
        refine okc_o (τ := σ) ?_ (spo_e (by decide))
        simp only [M256, e256_0, Option.getD_some, Option.bind_some, Option.toList_some, Option.toList_none, List.cons_append, List.nil_append, and_self, and_true, true_and, false_and, and_false, ite_self, not_true_eq_false, not_false_eq_true, reduceIte, Nat.reduceEqDiff, ab_I, ab_L, ab_R, ao_I, ao_L, ao_R, gL_sL, gI_sI, gR_sR, gI_sL, gI_sR, gL_sI, gL_sR, gR_sI, gR_sL, c0, c4, d8, d12, d16]
theorem T255 (H : SC σ k j E w) (hS : CSt σ k S) (P : PX S E t) (ht : gI σ 40 8 = t) (hw : okMem w) (hl : fL w = 1) : okc (MM 255 [mR (some 40)] σ) (some (mI (lodV E S w).1)) (fun τ => spo σ τ k j (lodV E S w).1 (wV S (dR w) (lodV E S w).2) (gI σ 40 4) t) := by
  have F := PX_F P
  unfold okMem at hw
  rw [if_pos hl] at hw
  obtain ⟨hM, hd, hs, -⟩ := hw
  have hd' : dR w ≤ 9 := by have := dR_9 hd; omega
  have hs' := sR_10 hs
  have l := pR_lt F hs'
  have hv := cAt_rg hS F.1 hs'
  have wv := okW_r P hs'
  have ov := rV_ok P.1 hs'
  have bn := bytN_c w
  have fo := fO_r w
  have t42 := T242 H hS F hs
  have t41 := T241 H hS F (show fD w ≤ 10 by omega)
  have t14 := T214r H hS P hs'
  have fof := okV_f P.1 hs'
  unfold lodV
  generalize hV : rgV S (sRr w) = v at *
  have l7 : pR S (sRr w) + 7 < 1188 := by omega
  have l8 : pR S (sRr w) + 8 < 1188 := by omega
  have w7 : w32 (((pR S (sRr w) : Nat) : Int) + 7) = ((pR S (sRr w) + 7 : Nat) : Int) := w_pl (c := 7) (Nat.lt_trans l7 (by decide))
  have w8 : w32 (((pR S (sRr w) : Nat) : Int) + 8) = ((pR S (sRr w) + 8 : Nat) : Int) := w_pl (c := 8) (Nat.lt_trans l8 (by decide))
  have g7 := gSt (sc_k H) l7
  have g8 := gSt (sc_k H) l8
  have s50 : MM 255 [mR (some 40)] σ = RR (lkB tb255) (B255_50, [some (mR (some 40)), some (mI ((pR S (sRr w) : Nat) : Int)), some (mI (vk v)), some (mI ((bytN w : Nat) : Int)), some (mI (fO w)), none, none, none, none, none, none], [mI (b2 (fM w = 128))], σ) := by
    by_cases s : fM w = 128
    · simp only [M255, e255_0, e255_4, e255_13, e255_21, e255_29, Option.getD_some, Option.bind_some, Option.toList_some, Option.toList_none, List.cons_append, List.nil_append, and_self, and_true, true_and, false_and, and_false, ite_self, not_true_eq_false, not_false_eq_true, reduceIte, Nat.reduceEqDiff, ab_I, ab_L, ab_R, ao_I, ao_L, ao_R, gL_sL, gI_sI, gR_sR, gI_sL, gI_sR, gL_sI, gL_sR, gR_sI, gR_sL, t42, sc_h H, sc_ao H, t14, sc_p H, T5, sc_w H, T3, m224, s, b2_yes trivial]
    · simp only [M255, e255_0, e255_4, e255_13, e255_21, e255_29, Option.getD_some, Option.bind_some, Option.toList_some, Option.toList_none, List.cons_append, List.nil_append, and_self, and_true, true_and, false_and, and_false, ite_self, not_true_eq_false, not_false_eq_true, reduceIte, Nat.reduceEqDiff, ab_I, ab_L, ab_R, ao_I, ao_L, ao_R, gL_sL, gI_sI, gR_sR, gI_sL, gI_sR, gL_sI, gL_sR, gR_sI, gR_sL, t42, sc_h H, sc_ao H, t14, sc_p H, T5, sc_w H, T3, m224, s, b2_no not_false]
  rw [s50]
  by_cases c0 : vk v = 0
  · rw [if_pos c0]
    refine okc_o (τ := σ) ?_ (spo_e (by show ¬ (3 : Int) = 0; decide))
    simp only [e255_50, Option.getD_some, Option.bind_some, Option.toList_some, Option.toList_none, List.cons_append, List.nil_append, and_self, and_true, true_and, false_and, and_false, ite_self, not_true_eq_false, not_false_eq_true, reduceIte, Nat.reduceEqDiff, ab_I, ab_L, ab_R, ao_I, ao_L, ao_R, gL_sL, gI_sI, gR_sR, gI_sL, gI_sR, gL_sI, gL_sR, gR_sI, gR_sL, c0]
  · rw [if_neg c0]
    by_cases mb : isMb v
    · have n2 : ¬ vk v = 2 := by have mb : vk v = 6 ∨ vk v = 10 := mb; omega
      have pf : plcF v = 14 := if_pos mb
      rw [if_neg n2, pf, if_pos (by decide)]
      refine okc_o (τ := σ) ?_ (spo_e (by show ¬ (14 : Int) = 0; decide))
      have mb' : vk v = 6 ∨ vk v = 10 := mb
      simp only [e255_50, e255_62, Option.getD_some, Option.bind_some, Option.toList_some, Option.toList_none, List.cons_append, List.nil_append, and_self, and_true, true_and, false_and, and_false, ite_self, not_true_eq_false, not_false_eq_true, reduceIte, Nat.reduceEqDiff, ab_I, ab_L, ab_R, ao_I, ao_L, ao_R, gL_sL, gI_sI, gR_sR, gI_sL, gI_sR, gL_sI, gL_sR, gR_sI, gR_sL, c0, T244, b2_0', mb']
    · have mb' : ¬ (vk v = 6 ∨ vk v = 10) := mb
      by_cases c2 : vk v = 2
      · rw [if_pos c2]
        by_cases o97 : fOp w = 97
        · obtain ⟨τ, t56, q56⟩ := T256 H hS P ht hd
          have s : RR (lkB tb255) (B255_50, [some (mR (some 40)), some (mI ((pR S (sRr w) : Nat) : Int)), some (mI (vk v)), some (mI ((bytN w : Nat) : Int)), some (mI (fO w)), none, none, none, none, none, none], [mI (b2 (fM w = 128))], σ) = some (some (mI (if 0 ≤ fO w ∧ fO w ≤ 16 ∧ fO w % 4 = 0 then 0 else 9)), τ) := by
            simp only [e255_50, e255_62, e255_88, Option.getD_some, Option.bind_some, Option.toList_some, Option.toList_none, List.cons_append, List.nil_append, and_self, and_true, true_and, false_and, and_false, ite_self, not_true_eq_false, not_false_eq_true, reduceIte, Nat.reduceEqDiff, ab_I, ab_L, ab_R, ao_I, ao_L, ao_R, gL_sL, gI_sI, gR_sR, gI_sL, gI_sR, gL_sI, gL_sR, gR_sI, gR_sL, c2, Int.reduceEq, T244, or_self, b2_no not_false, sc_p H, o97, t56]
          rw [s]
          by_cases g : 0 ≤ fO w ∧ fO w ≤ 16 ∧ fO w % 4 = 0
          · rw [if_pos g] at q56 ⊢
            rw [if_neg (not_not_intro ⟨o97, g⟩)]
            by_cases o4 : fO w ≤ 4
            · rw [if_pos o4] at q56 ⊢
              exact okc_s q56
            · rw [if_neg o4] at q56 ⊢
              exact okc_s q56
          · rw [if_neg g] at q56 ⊢
            rw [if_pos (fun z => g z.2)]
            exact okc_s ⟨q56.1, fun z => absurd (show (9 : Int) = 0 from z) (by decide)⟩
        · rw [if_pos (fun z => o97 z.1)]
          refine okc_o (τ := σ) ?_ (spo_e (by show ¬ (9 : Int) = 0; decide))
          simp only [e255_50, e255_62, Option.getD_some, Option.bind_some, Option.toList_some, Option.toList_none, List.cons_append, List.nil_append, and_self, and_true, true_and, false_and, and_false, ite_self, not_true_eq_false, not_false_eq_true, reduceIte, Nat.reduceEqDiff, ab_I, ab_L, ab_R, ao_I, ao_L, ao_R, gL_sL, gI_sI, gR_sR, gI_sL, gI_sR, gL_sI, gL_sR, gR_sI, gR_sL, c2, Int.reduceEq, T244, or_self, b2_no not_false, sc_p H, o97]
      · rw [if_neg c2]
        by_cases mv : mvs v
        · have pf : plcF v = 0 := by
            unfold plcF
            rw [if_neg mb, if_neg (not_not_intro mv)]
          rw [pf, if_neg (by decide)]
          have mv' : vk v = 3 ∨ vk v = 5 ∨ vk v = 7 ∨ vk v = 9 := mv
          have t53 := T253 (b := fO w) (n := ((bytN w : Nat) : Int)) H l hv wv ov mv (by omega) (by omega)
          have s113 : RR (lkB tb255) (B255_50, [some (mR (some 40)), some (mI ((pR S (sRr w) : Nat) : Int)), some (mI (vk v)), some (mI ((bytN w : Nat) : Int)), some (mI (fO w)), none, none, none, none, none, none], [mI (b2 (fM w = 128))], σ) = RR (lkB tb255) (B255_113, [some (mR (some 40)), some (mI ((pR S (sRr w) : Nat) : Int)), some (mI (vk v)), some (mI ((bytN w : Nat) : Int)), some (mI (fO w)), some (mI (b2 (fM w = 128))), none, none, none, none, none], [mI (b2 (room E v (fO w) ((bytN w : Nat) : Int)))], σ) := by
            simp only [e255_50, e255_62, e255_98, Option.getD_some, Option.bind_some, Option.toList_some, Option.toList_none, List.cons_append, List.nil_append, and_self, and_true, true_and, false_and, and_false, ite_self, not_true_eq_false, not_false_eq_true, reduceIte, Nat.reduceEqDiff, ab_I, ab_L, ab_R, ao_I, ao_L, ao_R, gL_sL, gI_sI, gR_sR, gI_sL, gI_sR, gL_sI, gL_sR, gR_sI, gR_sL, c0, T244, b2_0', mb', c2, T245, b2_n', mv', t53]
          rw [s113]
          by_cases rm : room E v (fO w) ((bytN w : Nat) : Int)
          · rw [if_neg (not_not_intro rm), b2_yes rm]
            -- the number that comes
            have fin : ∀ xs : List (Option MV), (∀ L : List (Option MV), True) → okc (RR (lkB tb255) (B255_208, [some (mR (some 40)), some (mI ((pR S (sRr w) : Nat) : Int)), some (mI (vk v)), some (mI ((bytN w : Nat) : Int)), some (mI (fO w)), some (mI (b2 (fM w = 128))), none, none, none, none, none], [], σ)) (some (mI (if fM w = 128 then ((0 : Int), numV (tdN (sgnN (8 * bytN w)))) else (0, numV (wideN (bytN w)))).1)) (fun τ => spo σ τ k j (if fM w = 128 then ((0 : Int), numV (tdN (sgnN (8 * bytN w)))) else (0, numV (wideN (bytN w)))).1 (wV S (dR w) (if fM w = 128 then ((0 : Int), numV (tdN (sgnN (8 * bytN w)))) else (0, numV (wideN (bytN w)))).2) (gI σ 40 4) t) := fun _ _ => by
              by_cases s : fM w = 128
              · rw [if_pos s, b2_yes s]
                have t89 := T89 (σ := σ) (k := 42) (b := 8 * bytN w) (kc_42 σ) (by omega)
                have e8 : w32 (8 * ((bytN w : Nat) : Int)) = ((8 * bytN w : Nat) : Int) := by
                  rw [w32_i (by omega) (by omega)]
                  omega
                have td : tdN (sgnN (8 * bytN w)) = sgnN (8 * bytN w) := by
                  rcases bn with q | q | q | q
                  · rw [q]; decide +kernel
                  · rw [q]; decide +kernel
                  · rw [q]; decide +kernel
                  · rw [q]; decide +kernel
                rw [td]
                refine L255w H hS P ht hd (L := []) fun τ' a1 a2 a3 a4 => ?_
                simp only [e255_208, e255_224, e255_235, e255_243, e255_250, Option.getD_some, Option.bind_some, Option.toList_some, Option.toList_none, List.cons_append, List.nil_append, and_self, and_true, true_and, false_and, and_false, ite_self, not_true_eq_false, not_false_eq_true, reduceIte, Nat.reduceEqDiff, ab_I, ab_L, ab_R, ao_I, ao_L, ao_R, gL_sL, gI_sI, gR_sR, gI_sL, gI_sR, gL_sI, gL_sR, gR_sI, gR_sL, oneI, e8, t89, a1, a2, a3, a4]
              · rw [if_neg s, b2_no s]
                have t63 := T63 (σ := σ) (k := 42) (n := bytN w) (kc_42 σ) (by omega)
                refine L255w H hS P ht hd (L := []) fun τ' a1 a2 a3 a4 => ?_
                simp only [e255_208, e255_235, e255_243, e255_250, Option.getD_some, Option.bind_some, Option.toList_some, Option.toList_none, List.cons_append, List.nil_append, and_self, and_true, true_and, false_and, and_false, ite_self, not_true_eq_false, not_false_eq_true, reduceIte, Nat.reduceEqDiff, ab_I, ab_L, ab_R, ao_I, ao_L, ao_R, gL_sL, gI_sI, gR_sR, gI_sL, gI_sR, gL_sI, gL_sR, gR_sI, gR_sL, t63, a1, a2, a3, a4]
            by_cases k3 : vk v = 3
            · have ff := fof k3
              have rm' : -128 ≤ vo v + fO w ∧ vo v + fO w ≤ -((bytN w : Nat) : Int) := by
                unfold room at rm
                rwa [if_pos k3] at rm
              obtain ⟨f, hf⟩ : ∃ f, f = (vw v).toNat := ⟨_, rfl⟩
              obtain ⟨b, hb⟩ : ∃ b, b = (vo v + fO w + 128).toNat := ⟨_, rfl⟩
              have ef : vw v = (f : Int) := by omega
              have eb : vo v + fO w + 128 = (b : Int) := by omega
              have fF : f < sF S := by omega
              have mb8 : ((vo v + fO w + 128) % 8 = 0) = (b % 8 = 0) := by
                apply propext
                omega
              have b8 : (((bytN w : Nat) : Int) = 8) = (bytN w = 8) := by
                apply propext
                omega
              rw [← hf, ← hb]
              have r7 : gL σ (k + 1 + 0) (pR S (sRr w) + 7) + iL (fO w) = iL (vo v + fO w) := by rw [rd_7 hv, iLa]
              have r8 : gL σ (k + 1 + 0) (pR S (sRr w) + 8) = iL (f : Int) := by rw [rd_8 hv, ef]
              have pk : 26 * f + 10 + b / 8 < 26 * sF S := by omega
              have t23 := T223 (f := f) (b := b) (a := vo v + fO w) (c := ((bytN w : Nat) : Int)) (sc_k H) hS F.2 fF eb (by omega) (okW_S P.1 P.2.1 P.2.2.1 P.2.2.2 pk).1
              have s167 : RR (lkB tb255) (B255_113, [some (mR (some 40)), some (mI ((pR S (sRr w) : Nat) : Int)), some (mI (vk v)), some (mI ((bytN w : Nat) : Int)), some (mI (fO w)), some (mI (b2 (fM w = 128))), none, none, none, none, none], [mI 1], σ) = RR (lkB tb255) (B255_167, [some (mR (some 40)), some (mI ((pR S (sRr w) : Nat) : Int)), some (mI (vk v)), some (mI ((bytN w : Nat) : Int)), some (mI (fO w)), some (mI (b2 (fM w = 128))), some (mL (iL (f : Int))), none, some (mL (iL (vo v + fO w))), none, none], [mI (if (((bytN w : Nat) : Int) = 8 ∧ b % 8 = 0) ∧ ¬ vk (sV S (26 * f + 10 + b / 8)) = 0 then ((297 * f + 121 + 11 * (b / 8) : Nat) : Int) else -1)], σ) := by
                simp only [e255_113, Option.getD_some, Option.bind_some, Option.toList_some, Option.toList_none, List.cons_append, List.nil_append, and_self, and_true, true_and, false_and, and_false, ite_self, not_true_eq_false, not_false_eq_true, reduceIte, Nat.reduceEqDiff, ab_I, ab_L, ab_R, ao_I, ao_L, ao_R, gL_sL, gI_sI, gR_sR, gI_sL, gI_sR, gL_sI, gL_sR, gR_sI, gR_sL, oneI, k3, sc_h H, sc_ao H, w7, w8, g7, g8, Int.toNat_natCast, r7, r8, t23]
              rw [s167]
              by_cases wh : (bytN w = 8 ∧ b % 8 = 0) ∧ ¬ vk (sV S (26 * f + 10 + b / 8)) = 0
              · rw [if_pos (show vk v = 3 ∧ (bytN w = 8 ∧ (vo v + fO w + 128) % 8 = 0) ∧ ¬ vk (sV S (26 * f + 10 + b / 8)) = 0 from ⟨k3, ⟨wh.1.1, by rw [mb8]; exact wh.1.2⟩, wh.2⟩), if_pos (show (((bytN w : Nat) : Int) = 8 ∧ b % 8 = 0) ∧ ¬ vk (sV S (26 * f + 10 + b / 8)) = 0 from ⟨⟨by rw [b8]; exact wh.1.1, wh.1.2⟩, wh.2⟩)]
                have nn : ¬ ((297 * f + 121 + 11 * (b / 8) : Nat) : Int) < 0 := by omega
                obtain ⟨τ, t16, q16⟩ := T216 (a := 297 * f + 121 + 11 * (b / 8)) (b := pR S (dR w)) (sc_k H) (by omega) (pR_lt F (by omega)) (hS.2.2.2.1 f (b / 8) fF (by omega))
                have sp := spo_w (j := j) H hS F hd' (nfq_r σ) q16
                rw [ht] at sp
                refine okc_o (τ := τ) ?_ sp
                simp only [e255_167, e255_184, e255_187, Option.getD_some, Option.bind_some, Option.toList_some, Option.toList_none, List.cons_append, List.nil_append, and_self, and_true, true_and, false_and, and_false, ite_self, not_true_eq_false, not_false_eq_true, reduceIte, Nat.reduceEqDiff, ab_I, ab_L, ab_R, ao_I, ao_L, ao_R, gL_sL, gI_sI, gR_sR, gI_sL, gI_sR, gL_sI, gL_sR, gR_sI, gR_sL, nn, t41, sc_h H, sc_ao H, t16]
              · rw [if_neg (show ¬ (vk v = 3 ∧ (bytN w = 8 ∧ (vo v + fO w + 128) % 8 = 0) ∧ ¬ vk (sV S (26 * f + 10 + b / 8)) = 0) from fun z => wh ⟨⟨z.2.1.1, by rw [← mb8]; exact z.2.1.2⟩, z.2.2⟩), if_neg (show ¬ ((((bytN w : Nat) : Int) = 8 ∧ b % 8 = 0) ∧ ¬ vk (sV S (26 * f + 10 + b / 8)) = 0) from fun z => wh ⟨⟨by rw [← b8]; exact z.1.1, z.1.2⟩, z.2⟩)]
                have t26 := T226 (f := f) (b := b) (n := bytN w) (a := vo v + fO w) (sc_k H) hS P.2.1 (fun i hi => (okW_S P.1 P.2.1 P.2.2.1 P.2.2.2 hi).1) F.2 fF eb (by omega)
                have m1 : (-1 : Int) < 0 := by decide
                by_cases ar : areS S f b (bytN w) = true
                · rw [if_neg (show ¬ (vk v = 3 ∧ areS S f b (bytN w) = false) from fun z => by rw [ar] at z; cases z.2)]
                  rw [b2_yes ar] at t26
                  simp only [e255_167, e255_202, Option.getD_some, Option.bind_some, Option.toList_some, Option.toList_none, List.cons_append, List.nil_append, and_self, and_true, true_and, false_and, and_false, ite_self, not_true_eq_false, not_false_eq_true, reduceIte, Nat.reduceEqDiff, ab_I, ab_L, ab_R, ao_I, ao_L, ao_R, gL_sL, gI_sI, gR_sR, gI_sL, gI_sR, gL_sI, gL_sR, gR_sI, gR_sL, m1, sc_h H, sc_ao H, t26, oneI]
                  exact okc_q (by repeat (first | exact lq_nil | refine lq_cons (Or.inr rfl) ?_ | refine lq_cons (Or.inl rfl) ?_)) (fin [] (fun _ => trivial))
                · have ar' : areS S f b (bytN w) = false := by simpa using ar
                  rw [if_pos (show vk v = 3 ∧ areS S f b (bytN w) = false from ⟨k3, ar'⟩)]
                  rw [b2_no ar] at t26
                  refine okc_o (τ := σ) ?_ (spo_e (by show ¬ (6 : Int) = 0; decide))
                  simp only [e255_167, e255_202, Option.getD_some, Option.bind_some, Option.toList_some, Option.toList_none, List.cons_append, List.nil_append, and_self, and_true, true_and, false_and, and_false, ite_self, not_true_eq_false, not_false_eq_true, reduceIte, Nat.reduceEqDiff, ab_I, ab_L, ab_R, ao_I, ao_L, ao_R, gL_sL, gI_sI, gR_sR, gI_sL, gI_sR, gL_sI, gL_sR, gR_sI, gR_sL, m1, sc_h H, sc_ao H, t26]
            · rw [if_neg (fun z => k3 z.1), if_neg (fun z => k3 z.1)]
              simp only [e255_113, Option.getD_some, Option.bind_some, Option.toList_some, Option.toList_none, List.cons_append, List.nil_append, and_self, and_true, true_and, false_and, and_false, ite_self, not_true_eq_false, not_false_eq_true, reduceIte, Nat.reduceEqDiff, ab_I, ab_L, ab_R, ao_I, ao_L, ao_R, gL_sL, gI_sI, gR_sR, gI_sL, gI_sR, gL_sI, gL_sR, gR_sI, gR_sL, oneI, k3]
              exact fin [] (fun _ => trivial)
          · rw [if_pos rm, b2_no rm]
            refine okc_o (τ := σ) ?_ (spo_e (by show ¬ (5 : Int) = 0; decide))
            simp only [e255_113, Option.getD_some, Option.bind_some, Option.toList_some, Option.toList_none, List.cons_append, List.nil_append, and_self, and_true, true_and, false_and, and_false, ite_self, not_true_eq_false, not_false_eq_true, reduceIte, Nat.reduceEqDiff, ab_I, ab_L, ab_R, ao_I, ao_L, ao_R, gL_sL, gI_sI, gR_sR, gI_sL, gI_sR, gL_sI, gL_sR, gR_sI, gR_sL]
        · have pf : plcF v = 4 := by
            unfold plcF
            rw [if_neg mb, if_pos mv]
          have mv' : ¬ (vk v = 3 ∨ vk v = 5 ∨ vk v = 7 ∨ vk v = 9) := mv
          rw [pf, if_pos (by decide)]
          refine okc_o (τ := σ) ?_ (spo_e (by show ¬ (4 : Int) = 0; decide))
          simp only [e255_50, e255_62, e255_98, Option.getD_some, Option.bind_some, Option.toList_some, Option.toList_none, List.cons_append, List.nil_append, and_self, and_true, true_and, false_and, and_false, ite_self, not_true_eq_false, not_false_eq_true, reduceIte, Nat.reduceEqDiff, ab_I, ab_L, ab_R, ao_I, ao_L, ao_R, gL_sL, gI_sI, gR_sR, gI_sL, gI_sR, gL_sI, gL_sR, gR_sI, gR_sL, c0, T244, b2_0', mb', c2, T245, b2_n', mv']
end CLOD
-- FILE 88.csto
/-! ===== the class's stores, exchanges ===== -/
section CSTO
variable {τ σ ρ : MS} {k j pl : Nat} {E : EV} {w : B64} {S : ST} {t a b n z : Int} {v : VL}
abbrev stV (S : ST) (w : B64) : VL := if fL w = 3 then rgV S (sRr w) else numV (cstN (BitVec.ofInt 64 (fI w)))
theorem spo_q {T : ST} (h : crq τ σ k) (hT : CSt τ k T) (ht : gI σ 40 8 = t) : spo σ τ k j 0 T (gI σ 40 4) t := ⟨sfq_c h, fun _ => ⟨hT, h.1 _ _, h.1 _ _, (h.1 _ _).trans ht⟩⟩
/-- into a stack -/
theorem T258 {f b : Nat} (H : SC σ k j E w) (hS : CSt σ k S) (P : PX S E t) (ht : gI σ 40 8 = t) (hd : fD w ≤ 10) (hs : fL w = 3 → fS w ≤ 10) (k3 : vk (rgV S (dR w)) = 3) (hf : vw (rgV S (dR w)) = (f : Int)) (hb : vo (rgV S (dR w)) + fO w + 128 = (b : Int)) (fF : f < sF S) (bl' : b + bytN w ≤ 128) (v0 : ¬ vk (stV S w) = 0) :
    okc (MM 258 [mR (some 40), mI ((pR S (dR w) : Nat) : Int), mI (b2 (fL w = 3)), mI (vk (stV S w))] σ) (some (mI (if ¬ vk (stV S w) = 1 ∧ (¬ (bytN w = 8 ∧ b % 8 = 0) ∨ vk (stV S w) = 3 ∧ (f : Int) < vw (stV S w)) then 7 else 0)))
      (fun τ => spo σ τ k j (if ¬ vk (stV S w) = 1 ∧ (¬ (bytN w = 8 ∧ b % 8 = 0) ∨ vk (stV S w) = 3 ∧ (f : Int) < vw (stV S w)) then 7 else 0) (if bytN w = 8 ∧ b % 8 = 0 then (sF S, upV (sV S) (26 * f + 10 + b / 8) (stV S w), sB S, sH S) else putB S f b (bytN w) (bytN w)) (gI σ 40 4) t) := by
  have F := PX_F P
  have bn := bytN_c w
  have hd' := dR_10 hd
  have l := pR_lt F hd'
  have hv := cAt_rg hS F.1 hd'
  have l7 : pR S (dR w) + 7 < 100000 := by omega
  have l8 : pR S (dR w) + 8 < 100000 := by omega
  have g7 := gSt (sc_k H) (show pR S (dR w) + 7 < 1188 by omega)
  have g8 := gSt (sc_k H) (show pR S (dR w) + 8 < 1188 by omega)
  have r7 : gL σ (k + 1 + 0) (pR S (dR w) + 7) + iL (fO w) = iL (vo (rgV S (dR w)) + fO w) := by rw [rd_7 hv, iLa]
  have r8 : gL σ (k + 1 + 0) (pR S (dR w) + 8) = iL (f : Int) := by rw [rd_8 hv, hf]
  obtain ⟨a, ha⟩ : ∃ a, a = vo (rgV S (dR w)) + fO w := ⟨_, rfl⟩
  rw [← ha] at r7 hb
  have rg3 : vk (stV S w) = 3 → fL w = 3 := fun z => by
    by_cases q : fL w = 3
    · exact q
    · have e : stV S w = numV (cstN (BitVec.ofInt 64 (fI w))) := if_neg q
      rw [e] at z
      exact absurd (show (1 : Int) = 3 from z) (by decide)
  have b8 : (((bytN w : Nat) : Int) = 8) = (bytN w = 8) := by
    apply propext
    omega
  have s44 : MM 258 [mR (some 40), mI ((pR S (dR w) : Nat) : Int), mI (b2 (fL w = 3)), mI (vk (stV S w))] σ = RR (lkB tb258) (B258_44, [some (mR (some 40)), some (mI ((pR S (dR w) : Nat) : Int)), some (mI (b2 (fL w = 3))), some (mI (vk (stV S w))), some (mL (iL (f : Int))), none, some (mL (iL a)), none, none], [mI ((bytN w : Nat) : Int)], σ) := by
    simp only [M258, e258_0, e258_33, Option.getD_some, Option.bind_some, Option.toList_some, Option.toList_none, List.cons_append, List.nil_append, and_self, and_true, true_and, false_and, and_false, ite_self, not_true_eq_false, not_false_eq_true, reduceIte, Nat.reduceEqDiff, ab_I, ab_L, ab_R, ao_I, ao_L, ao_R, gL_sL, gI_sI, gR_sR, gI_sL, gI_sR, gL_sI, gL_sR, gR_sI, gR_sL, sc_h H, sc_ao H, wp7 l7, wp8 l8, g7, g8, Int.toNat_natCast, sc_w H, T3, r7, r8, sc_p H, T5]
  rw [s44]
  -- a stack that is farther up
  by_cases up : vk (stV S w) = 3 ∧ (f : Int) < vw (stV S w)
  · rw [if_pos (show ¬ vk (stV S w) = 1 ∧ (¬ (bytN w = 8 ∧ b % 8 = 0) ∨ vk (stV S w) = 3 ∧ (f : Int) < vw (stV S w)) from ⟨by omega, Or.inr up⟩)]
    have l3 := rg3 up.1
    have er : stV S w = rgV S (sRr w) := if_pos l3
    have hs' := sR_10 (hs l3)
    have ls := pR_lt F hs'
    have l8s : pR S (sRr w) + 8 < 100000 := by omega
    have g8s := gSt (sc_k H) (show pR S (sRr w) + 8 < 1188 by omega)
    have r8s := rd_8 (cAt_rg hS F.1 hs')
    have wv := (okW_r P hs').2.2.1
    rw [er] at up
    have nl : ¬ BitVec.toInt (iL (vw (rgV S (sRr w)))) ≤ BitVec.toInt (iL (f : Int)) := by
      rw [iLt (by omega) (by omega), iLt (by omega) (by omega)]
      omega
    refine okc_o (τ := σ) ?_ (spo_e (by decide))
    rw [er]
    simp only [e258_44, e258_62, Option.getD_some, Option.bind_some, Option.toList_some, Option.toList_none, List.cons_append, List.nil_append, and_self, and_true, true_and, false_and, and_false, ite_self, not_true_eq_false, not_false_eq_true, reduceIte, Nat.reduceEqDiff, ab_I, ab_L, ab_R, ao_I, ao_L, ao_R, gL_sL, gI_sI, gR_sR, gI_sL, gI_sR, gL_sI, gL_sR, gR_sI, gR_sL, up.1, sc_h H, sc_ao H, T242 H hS F (hs l3), wp8 l8s, g8s, Int.toNat_natCast, r8s, nl]
  · have s75 : RR (lkB tb258) (B258_44, [some (mR (some 40)), some (mI ((pR S (dR w) : Nat) : Int)), some (mI (b2 (fL w = 3))), some (mI (vk (stV S w))), some (mL (iL (f : Int))), none, some (mL (iL a)), none, none], [mI ((bytN w : Nat) : Int)], σ) = RR (lkB tb258) (B258_75, [some (mR (some 40)), some (mI ((pR S (dR w) : Nat) : Int)), some (mI (b2 (fL w = 3))), some (mI (vk (stV S w))), some (mL (iL (f : Int))), none, some (mL (iL a)), none, some (mI ((bytN w : Nat) : Int))], [], σ) := by
      by_cases v3 : vk (stV S w) = 3
      · have l3 := rg3 v3
        have er : stV S w = rgV S (sRr w) := if_pos l3
        have hs' := sR_10 (hs l3)
        have ls := pR_lt F hs'
        have l8s : pR S (sRr w) + 8 < 100000 := by omega
        have g8s := gSt (sc_k H) (show pR S (sRr w) + 8 < 1188 by omega)
        have r8s := rd_8 (cAt_rg hS F.1 hs')
        have wv := (okW_r P hs').2.2.1
        have nu : ¬ (f : Int) < vw (rgV S (sRr w)) := fun z => up ⟨v3, by rw [er]; exact z⟩
        have le : BitVec.toInt (iL (vw (rgV S (sRr w)))) ≤ BitVec.toInt (iL (f : Int)) := by
          rw [iLt (by omega) (by omega), iLt (by omega) (by omega)]
          omega
        rw [v3]
        simp only [e258_44, e258_62, Option.getD_some, Option.bind_some, Option.toList_some, Option.toList_none, List.cons_append, List.nil_append, and_self, and_true, true_and, false_and, and_false, ite_self, not_true_eq_false, not_false_eq_true, reduceIte, Nat.reduceEqDiff, ab_I, ab_L, ab_R, ao_I, ao_L, ao_R, gL_sL, gI_sI, gR_sR, gI_sL, gI_sR, gL_sI, gL_sR, gR_sI, gR_sL, sc_h H, sc_ao H, T242 H hS F (hs l3), wp8 l8s, g8s, Int.toNat_natCast, r8s, le]
      · simp only [e258_44, Option.getD_some, Option.bind_some, Option.toList_some, Option.toList_none, List.cons_append, List.nil_append, and_self, and_true, true_and, false_and, and_false, ite_self, not_true_eq_false, not_false_eq_true, reduceIte, Nat.reduceEqDiff, ab_I, ab_L, ab_R, ao_I, ao_L, ao_R, gL_sL, gI_sI, gR_sR, gI_sL, gI_sR, gL_sI, gL_sR, gR_sI, gR_sL, v3]
    rw [s75]
    -- whole or bytes
    have whole : ∀ (τ1 : MS) (o : Option Rs), bytN w = 8 ∧ b % 8 = 0 → o = some (some (mI 0), τ1) → (∃ σ1, nfq σ1 σ ∧ cxV τ1 σ1 k (297 * f + 121 + 11 * (b / 8)) (stV S w)) → okc o (some (mI (if ¬ vk (stV S w) = 1 ∧ (¬ (bytN w = 8 ∧ b % 8 = 0) ∨ vk (stV S w) = 3 ∧ (f : Int) < vw (stV S w)) then 7 else 0)))
      (fun τ => spo σ τ k j (if ¬ vk (stV S w) = 1 ∧ (¬ (bytN w = 8 ∧ b % 8 = 0) ∨ vk (stV S w) = 3 ∧ (f : Int) < vw (stV S w)) then 7 else 0) (if bytN w = 8 ∧ b % 8 = 0 then (sF S, upV (sV S) (26 * f + 10 + b / 8) (stV S w), sB S, sH S) else putB S f b (bytN w) (bytN w)) (gI σ 40 4) t) := fun τ1 o wh e h => by
      obtain ⟨σ1, q1, q2⟩ := h
      rw [if_neg (show ¬ (¬ vk (stV S w) = 1 ∧ (¬ (bytN w = 8 ∧ b % 8 = 0) ∨ vk (stV S w) = 3 ∧ (f : Int) < vw (stV S w))) from fun z => z.2.elim (fun y => y wh) up), if_pos wh]
      refine okc_o e ⟨sfq_t (sfq_v q2) (sfq_n q1), fun _ => ⟨CSt_p F.2 (CSt_n (sc_c H) q1 hS) fF (by omega) q2, (q2.1 _ _).trans (q1.1 _ _), (q2.1 _ _).trans (q1.1 _ _), ((q2.1 _ _).trans (q1.1 _ _)).trans ht⟩⟩
    have bytes : ∀ (σ1 : MS) (o : Option Rs), nfq σ1 σ → ¬ (bytN w = 8 ∧ b % 8 = 0) → (vk (stV S w) = 1 → ∀ τ', MM 227 [mR (some k), mL (iL (f : Int)), mL (iL a), mL (iL ((bytN w : Nat) : Int)), mL (iL ((bytN w : Nat) : Int))] σ1 = some (none, τ') → o = some (some (mI 0), τ')) → (¬ vk (stV S w) = 1 → o = some (some (mI 7), σ1)) → okc o (some (mI (if ¬ vk (stV S w) = 1 ∧ (¬ (bytN w = 8 ∧ b % 8 = 0) ∨ vk (stV S w) = 3 ∧ (f : Int) < vw (stV S w)) then 7 else 0)))
      (fun τ => spo σ τ k j (if ¬ vk (stV S w) = 1 ∧ (¬ (bytN w = 8 ∧ b % 8 = 0) ∨ vk (stV S w) = 3 ∧ (f : Int) < vw (stV S w)) then 7 else 0) (if bytN w = 8 ∧ b % 8 = 0 then (sF S, upV (sV S) (26 * f + 10 + b / 8) (stV S w), sB S, sH S) else putB S f b (bytN w) (bytN w)) (gI σ 40 4) t) := fun σ1 o q1 nw e1 e2 => by
      by_cases v1 : vk (stV S w) = 1
      · rw [if_neg (show ¬ (¬ vk (stV S w) = 1 ∧ (¬ (bytN w = 8 ∧ b % 8 = 0) ∨ vk (stV S w) = 3 ∧ (f : Int) < vw (stV S w))) from fun z => z.1 v1), if_neg nw]
        have H1 := SC_n q1 H
        obtain ⟨τ, e27, c27, q27⟩ := T227 (b := b) (n := bytN w) (c := bytN w) (a := a) (sc_k H1) (CSt_n (sc_c H) q1 hS) P.2.1 (fun i hi => (okW_S P.1 P.2.1 P.2.2.1 P.2.2.2 hi).1) F.2 fF hb bl' (Nat.le_refl _)
        exact okc_o (e1 v1 τ e27) ⟨sfq_t (sfq_c q27) (sfq_n q1), fun _ => ⟨c27, (q27.1 _ _).trans (q1.1 _ _), (q27.1 _ _).trans (q1.1 _ _), ((q27.1 _ _).trans (q1.1 _ _)).trans ht⟩⟩
      · rw [if_pos (show ¬ vk (stV S w) = 1 ∧ (¬ (bytN w = 8 ∧ b % 8 = 0) ∨ vk (stV S w) = 3 ∧ (f : Int) < vw (stV S w)) from ⟨v1, Or.inl nw⟩)]
        exact okc_o (e2 v1) (spo_f (by decide) (sfq_n q1))
    by_cases l3 : fL w = 3
    · have er : stV S w = rgV S (sRr w) := if_pos l3
      have hs' := sR_10 (hs l3)
      obtain ⟨τ, t24, q24⟩ := T224 (f := f) (b := b) (c := ((bytN w : Nat) : Int)) (a := a) (pl := pR S (sRr w)) (sc_k H) (by omega) hb (by omega) (fun _ => by omega) (pR_lt F hs') (cAt_rg hS F.1 hs')
      rw [b2_yes l3]
      by_cases wh : bytN w = 8 ∧ b % 8 = 0
      · have wh' : ((bytN w : Nat) : Int) = 8 ∧ b % 8 = 0 := ⟨by rw [b8]; exact wh.1, wh.2⟩
        rw [if_pos wh'] at q24
        rw [b2_yes wh'] at t24
        refine whole τ _ wh ?_ ⟨σ, nfq_r σ, by rw [er]; exact q24⟩
        simp only [e258_75, e258_93, e258_96, Option.getD_some, Option.bind_some, Option.toList_some, Option.toList_none, List.cons_append, List.nil_append, and_self, and_true, true_and, false_and, and_false, ite_self, not_true_eq_false, not_false_eq_true, reduceIte, Nat.reduceEqDiff, ab_I, ab_L, ab_R, ao_I, ao_L, ao_R, gL_sL, gI_sI, gR_sR, gI_sL, gI_sR, gL_sI, gL_sR, gR_sI, gR_sL, oneI, T242 H hS F (hs l3), sc_h H, sc_ao H, t24]
      · have wh' : ¬ (((bytN w : Nat) : Int) = 8 ∧ b % 8 = 0) := fun z => wh ⟨by rw [← b8]; exact z.1, z.2⟩
        rw [if_neg wh'] at q24
        rw [b2_no wh', q24] at t24
        refine bytes σ _ (nfq_r σ) wh (fun v1 τ' e27 => ?_) (fun v1 => ?_)
        · simp only [e258_75, e258_93, e258_96, e258_163, Option.getD_some, Option.bind_some, Option.toList_some, Option.toList_none, List.cons_append, List.nil_append, and_self, and_true, true_and, false_and, and_false, ite_self, not_true_eq_false, not_false_eq_true, reduceIte, Nat.reduceEqDiff, ab_I, ab_L, ab_R, ao_I, ao_L, ao_R, gL_sL, gI_sI, gR_sR, gI_sL, gI_sR, gL_sI, gL_sR, gR_sI, gR_sL, oneI, T242 H hS F (hs l3), sc_h H, sc_ao H, t24, v1, e27]
        · simp only [e258_75, e258_93, e258_96, Option.getD_some, Option.bind_some, Option.toList_some, Option.toList_none, List.cons_append, List.nil_append, and_self, and_true, true_and, false_and, and_false, ite_self, not_true_eq_false, not_false_eq_true, reduceIte, Nat.reduceEqDiff, ab_I, ab_L, ab_R, ao_I, ao_L, ao_R, gL_sL, gI_sI, gR_sR, gI_sL, gI_sR, gL_sI, gL_sR, gR_sI, gR_sL, oneI, T242 H hS F (hs l3), sc_h H, sc_ao H, t24, v1]
    · have er : stV S w = numV (cstN (BitVec.ofInt 64 (fI w))) := if_neg l3
      have t61 := T61 (σ := σ) (k := 42) (x1 := iL (fI w)) (kc_42 σ)
      have q1 : nfq (wC σ 42 (cstN (iL (fI w)))) σ := nfq_w (by omega)
      have H1 := SC_n q1 H
      have sc := sc_c H
      obtain ⟨τ, t25, q25⟩ := T225 (f := f) (b := b) (c := ((bytN w : Nat) : Int)) (a := a) (j := 42) (sc_k H1) (by omega) hb (by omega) (fun _ => by omega) (kc_42 (wC σ 42 (cstN (iL (fI w))))) (by omega)
      rw [b2_no l3]
      by_cases wh : bytN w = 8 ∧ b % 8 = 0
      · have wh' : ((bytN w : Nat) : Int) = 8 ∧ b % 8 = 0 := ⟨by rw [b8]; exact wh.1, wh.2⟩
        rw [if_pos wh', rC_wC, if_pos rfl] at q25
        rw [b2_yes wh'] at t25
        refine whole τ _ wh ?_ ⟨_, q1, by rw [er]; exact q25⟩
        simp only [e258_75, e258_112, e258_116, e258_133, Option.getD_some, Option.bind_some, Option.toList_some, Option.toList_none, List.cons_append, List.nil_append, and_self, and_true, true_and, false_and, and_false, ite_self, not_true_eq_false, not_false_eq_true, reduceIte, Nat.reduceEqDiff, ab_I, ab_L, ab_R, ao_I, ao_L, ao_R, gL_sL, gI_sI, gR_sR, gI_sL, gI_sR, gL_sI, gL_sR, gR_sI, gR_sL, oneI, sc_w H, T4, aoR 42 (kc_42 _), t61, sc_h H1, sc_ao H1, t25]
      · have wh' : ¬ (((bytN w : Nat) : Int) = 8 ∧ b % 8 = 0) := fun z => wh ⟨by rw [← b8]; exact z.1, z.2⟩
        rw [if_neg wh'] at q25
        rw [b2_no wh', q25] at t25
        refine bytes _ _ q1 wh (fun v1 τ' e27 => ?_) (fun v1 => ?_)
        · simp only [e258_75, e258_112, e258_116, e258_133, e258_163, Option.getD_some, Option.bind_some, Option.toList_some, Option.toList_none, List.cons_append, List.nil_append, and_self, and_true, true_and, false_and, and_false, ite_self, not_true_eq_false, not_false_eq_true, reduceIte, Nat.reduceEqDiff, ab_I, ab_L, ab_R, ao_I, ao_L, ao_R, gL_sL, gI_sI, gR_sR, gI_sL, gI_sR, gL_sI, gL_sR, gR_sI, gR_sL, sc_w H, T4, aoR 42 (kc_42 _), t61, sc_h H1, sc_ao H1, t25, v1, e27]
        · simp only [e258_75, e258_112, e258_116, e258_133, Option.getD_some, Option.bind_some, Option.toList_some, Option.toList_none, List.cons_append, List.nil_append, and_self, and_true, true_and, false_and, and_false, ite_self, not_true_eq_false, not_false_eq_true, reduceIte, Nat.reduceEqDiff, ab_I, ab_L, ab_R, ao_I, ao_L, ao_R, gL_sL, gI_sI, gR_sR, gI_sL, gI_sR, gL_sI, gL_sR, gR_sI, gR_sL, sc_w H, T4, aoR 42 (kc_42 _), t61, sc_h H1, sc_ao H1, t25, v1]
theorem T257 (H : SC σ k j E w) (hS : CSt σ k S) (P : PX S E t) (ht : gI σ 40 8 = t) (hw : okMem w) (hl : fL w = 2 ∨ fL w = 3 ∧ fM w = 96) : okc (MM 257 [mR (some 40)] σ) (some (mI (stoV E S w).1)) (fun τ => spo σ τ k j (stoV E S w).1 (stoV E S w).2 (gI σ 40 4) t) := by
  have F := PX_F P
  have hd : fD w ≤ 10 := by
    unfold okMem at hw
    rw [if_neg (by omega)] at hw
    rcases hl with q | q
    · rw [if_pos q] at hw
      exact hw.2.1
    · rw [if_neg (by omega), if_pos q.2] at hw
      exact hw.1
  have hs : fL w = 3 → fS w ≤ 10 := fun q => by
    unfold okMem at hw
    rw [if_neg (by omega), if_neg (by omega), if_pos (by omega)] at hw
    exact hw.2.1
  have hd' := dR_10 hd
  have l := pR_lt F hd'
  have hv := cAt_rg hS F.1 hd'
  have wv := okW_r P hd'
  have ov := rV_ok P.1 hd'
  have bn := bytN_c w
  have fo := fO_r w
  have t41 := T241 H hS F hd
  have t14 := T214r H hS P hd'
  have fof := okV_f P.1 hd'
  have s50 : MM 257 [mR (some 40)] σ = RR (lkB tb257) (B257_50, [some (mR (some 40)), some (mI ((pR S (dR w) : Nat) : Int)), some (mI (vk (rgV S (dR w)))), some (mI (b2 (fL w = 3))), none], [mI (vk (stV S w))], σ) := by
    by_cases l3 : fL w = 3
    · have er : stV S w = rgV S (sRr w) := if_pos l3
      have ts := T214r H hS P (r := sRr w) (sR_10 (hs l3))
      rw [b2_yes l3, er]
      simp only [M257, e257_0, e257_4, e257_13, e257_30, e257_43, e257_46, Option.getD_some, Option.bind_some, Option.toList_some, Option.toList_none, List.cons_append, List.nil_append, and_self, and_true, true_and, false_and, and_false, ite_self, not_true_eq_false, not_false_eq_true, reduceIte, Nat.reduceEqDiff, ab_I, ab_L, ab_R, ao_I, ao_L, ao_R, gL_sL, gI_sI, gR_sR, gI_sL, gI_sR, gL_sI, gL_sR, gR_sI, gR_sL, t41, sc_h H, sc_ao H, t14, sc_p H, m7, l3, oneI, T242 H hS F (hs l3), ts]
    · have er : stV S w = numV (cstN (BitVec.ofInt 64 (fI w))) := if_neg l3
      have e1 : vk (stV S w) = 1 := by rw [er]; rfl
      rw [b2_no l3, e1]
      simp only [M257, e257_0, e257_4, e257_13, e257_30, Option.getD_some, Option.bind_some, Option.toList_some, Option.toList_none, List.cons_append, List.nil_append, and_self, and_true, true_and, false_and, and_false, ite_self, not_true_eq_false, not_false_eq_true, reduceIte, Nat.reduceEqDiff, ab_I, ab_L, ab_R, ao_I, ao_L, ao_R, gL_sL, gI_sI, gR_sR, gI_sL, gI_sR, gL_sI, gL_sR, gR_sI, gR_sL, t41, sc_h H, sc_ao H, t14, sc_p H, m7, l3]
  rw [s50]
  have sto : stoV E S w = (if vk (rgV S (dR w)) = 0 then (3, S)
    else if vk (stV S w) = 0 then (3, S)
    else if vk (rgV S (dR w)) = 2 then
      (if ¬ bytN w = 4 ∨ ¬ fO w = 12 then (9, S)
       else if ¬ vk (stV S w) = 1 then (7, S) else (0, S))
    else if ¬ plcF (rgV S (dR w)) = 0 then (plcF (rgV S (dR w)), S)
    else if ¬ room E (rgV S (dR w)) (fO w) (bytN w) then (5, S)
    else if ¬ vk (stV S w) = 1 ∧ (¬ (vk (rgV S (dR w)) = 3 ∧ bytN w = 8 ∧ (vo (rgV S (dR w)) + fO w + 128) % 8 = 0) ∨ vk (stV S w) = 3 ∧ vw (rgV S (dR w)) < vw (stV S w)) then (7, S)
    else if vk (rgV S (dR w)) = 3 ∧ bytN w = 8 ∧ (vo (rgV S (dR w)) + fO w + 128) % 8 = 0 then
      (0, (sF S, upV (sV S) (26 * (vw (rgV S (dR w))).toNat + 10 + (vo (rgV S (dR w)) + fO w + 128).toNat / 8) (stV S w), sB S, sH S))
    else if vk (rgV S (dR w)) = 3 then (0, putB S (vw (rgV S (dR w))).toNat (vo (rgV S (dR w)) + fO w + 128).toNat (bytN w) (bytN w))
    else (0, S)) := rfl
  rw [sto]
  clear sto s50
  have t58 := fun (f b : Nat) => T258 (f := f) (b := b) H hS P ht hd hs
  obtain ⟨V, hV⟩ : ∃ V, V = stV S w := ⟨_, rfl⟩
  rw [← hV] at t58 ⊢
  have go : ∀ {x : Int}, gI σ 40 8 = t → x = 0 → spo σ σ k j x S (gI σ 40 4) t := fun q z => by
    subst z
    have := spo_0 (j := j) hS
    rwa [q] at this
  generalize hv' : rgV S (dR w) = v at *
  by_cases c0 : vk v = 0
  · rw [if_pos c0]
    refine okc_o (τ := σ) ?_ (spo_e (by show ¬ (3 : Int) = 0; decide))
    simp only [e257_50, Option.getD_some, Option.bind_some, Option.toList_some, Option.toList_none, List.cons_append, List.nil_append, and_self, and_true, true_and, false_and, and_false, ite_self, not_true_eq_false, not_false_eq_true, reduceIte, Nat.reduceEqDiff, ab_I, ab_L, ab_R, ao_I, ao_L, ao_R, gL_sL, gI_sI, gR_sR, gI_sL, gI_sR, gL_sI, gL_sR, gR_sI, gR_sL, c0]
  · rw [if_neg c0]
    by_cases d0 : vk V = 0
    · rw [if_pos d0]
      refine okc_o (τ := σ) ?_ (spo_e (by show ¬ (3 : Int) = 0; decide))
      simp only [e257_50, Option.getD_some, Option.bind_some, Option.toList_some, Option.toList_none, List.cons_append, List.nil_append, and_self, and_true, true_and, false_and, and_false, ite_self, not_true_eq_false, not_false_eq_true, reduceIte, Nat.reduceEqDiff, ab_I, ab_L, ab_R, ao_I, ao_L, ao_R, gL_sL, gI_sI, gR_sR, gI_sL, gI_sR, gL_sI, gL_sR, gR_sI, gR_sL, c0, d0]
    · rw [if_neg d0]
      by_cases mb : isMb v
      · have n2 : ¬ vk v = 2 := by have mb : vk v = 6 ∨ vk v = 10 := mb; omega
        have pf : plcF v = 14 := if_pos mb
        rw [if_neg n2, pf, if_pos (by decide)]
        refine okc_o (τ := σ) ?_ (spo_e (by show ¬ (14 : Int) = 0; decide))
        have mb' : vk v = 6 ∨ vk v = 10 := mb
        simp only [e257_50, e257_67, Option.getD_some, Option.bind_some, Option.toList_some, Option.toList_none, List.cons_append, List.nil_append, and_self, and_true, true_and, false_and, and_false, ite_self, not_true_eq_false, not_false_eq_true, reduceIte, Nat.reduceEqDiff, ab_I, ab_L, ab_R, ao_I, ao_L, ao_R, gL_sL, gI_sI, gR_sR, gI_sL, gI_sR, gL_sI, gL_sR, gR_sI, gR_sL, c0, d0, T244, b2_0', mb']
      · have mb' : ¬ (vk v = 6 ∨ vk v = 10) := mb
        by_cases c2 : vk v = 2
        · rw [if_pos c2]
          have o26 : ¬ ((2 : Int) = 6 ∨ (2 : Int) = 10) := by decide
          by_cases b4 : bytN w = 4
          · have b4' : ((bytN w : Nat) : Int) = 4 := by omega
            by_cases o12 : fO w = 12
            · rw [if_neg (fun z => z.elim (fun y => y b4) (fun y => y o12))]
              by_cases d1 : vk V = 1
              · rw [if_neg (not_not_intro d1)]
                refine okc_o (τ := σ) ?_ (go ht rfl)
                simp only [e257_50, e257_67, e257_85, e257_96, e257_139, Option.getD_some, Option.bind_some, Option.toList_some, Option.toList_none, List.cons_append, List.nil_append, and_self, and_true, true_and, false_and, and_false, ite_self, not_true_eq_false, not_false_eq_true, reduceIte, Nat.reduceEqDiff, ab_I, ab_L, ab_R, ao_I, ao_L, ao_R, gL_sL, gI_sI, gR_sR, gI_sL, gI_sR, gL_sI, gL_sR, gR_sI, gR_sL, c2, Int.reduceEq, d0, T244, b2_0', o26, sc_p H, T5, b4', sc_w H, T3, o12, eq_true d1, oneI]
              · rw [if_pos d1]
                refine okc_o (τ := σ) ?_ (spo_e (by show ¬ (7 : Int) = 0; decide))
                simp only [e257_50, e257_67, e257_85, e257_96, e257_139, Option.getD_some, Option.bind_some, Option.toList_some, Option.toList_none, List.cons_append, List.nil_append, and_self, and_true, true_and, false_and, and_false, ite_self, not_true_eq_false, not_false_eq_true, reduceIte, Nat.reduceEqDiff, ab_I, ab_L, ab_R, ao_I, ao_L, ao_R, gL_sL, gI_sI, gR_sR, gI_sL, gI_sR, gL_sI, gL_sR, gR_sI, gR_sL, c2, Int.reduceEq, d0, T244, b2_0', o26, sc_p H, T5, b4', sc_w H, T3, o12, d1]
            · rw [if_pos (Or.inr o12)]
              refine okc_o (τ := σ) ?_ (spo_e (by show ¬ (9 : Int) = 0; decide))
              simp only [e257_50, e257_67, e257_85, e257_96, Option.getD_some, Option.bind_some, Option.toList_some, Option.toList_none, List.cons_append, List.nil_append, and_self, and_true, true_and, false_and, and_false, ite_self, not_true_eq_false, not_false_eq_true, reduceIte, Nat.reduceEqDiff, ab_I, ab_L, ab_R, ao_I, ao_L, ao_R, gL_sL, gI_sI, gR_sR, gI_sL, gI_sR, gL_sI, gL_sR, gR_sI, gR_sL, c2, Int.reduceEq, d0, T244, b2_0', o26, sc_p H, T5, b4', sc_w H, T3, o12]
          · have b4' : ¬ ((bytN w : Nat) : Int) = 4 := by omega
            rw [if_pos (Or.inl b4)]
            refine okc_o (τ := σ) ?_ (spo_e (by show ¬ (9 : Int) = 0; decide))
            simp only [e257_50, e257_67, e257_85, Option.getD_some, Option.bind_some, Option.toList_some, Option.toList_none, List.cons_append, List.nil_append, and_self, and_true, true_and, false_and, and_false, ite_self, not_true_eq_false, not_false_eq_true, reduceIte, Nat.reduceEqDiff, ab_I, ab_L, ab_R, ao_I, ao_L, ao_R, gL_sL, gI_sI, gR_sR, gI_sL, gI_sR, gL_sI, gL_sR, gR_sI, gR_sL, c2, Int.reduceEq, d0, T244, b2_0', o26, sc_p H, T5, b4']
        · rw [if_neg c2]
          by_cases mv : mvs v
          · have pf : plcF v = 0 := by
              unfold plcF
              rw [if_neg mb, if_neg (not_not_intro mv)]
            rw [pf, if_neg (by decide)]
            have mv' : vk v = 3 ∨ vk v = 5 ∨ vk v = 7 ∨ vk v = 9 := mv
            have t53 := T253 (b := fO w) (n := ((bytN w : Nat) : Int)) H l hv wv ov mv (by omega) (by omega)
            by_cases rm : room E v (fO w) ((bytN w : Nat) : Int)
            · rw [if_neg (not_not_intro rm)]
              rw [b2_yes rm] at t53
              have s139 : RR (lkB tb257) (B257_50, [some (mR (some 40)), some (mI ((pR S (dR w) : Nat) : Int)), some (mI (vk v)), some (mI (b2 (fL w = 3))), none], [mI (vk V)], σ) = RR (lkB tb257) (B257_139, [some (mR (some 40)), some (mI ((pR S (dR w) : Nat) : Int)), some (mI (vk v)), some (mI (b2 (fL w = 3))), some (mI (vk V))], [], σ) := by
                simp only [e257_50, e257_67, e257_108, e257_122, e257_130, e257_134, Option.getD_some, Option.bind_some, Option.toList_some, Option.toList_none, List.cons_append, List.nil_append, and_self, and_true, true_and, false_and, and_false, ite_self, not_true_eq_false, not_false_eq_true, reduceIte, Nat.reduceEqDiff, ab_I, ab_L, ab_R, ao_I, ao_L, ao_R, gL_sL, gI_sI, gR_sR, gI_sL, gI_sR, gL_sI, gL_sR, gR_sI, gR_sL, c0, d0, T244, b2_0', mb', c2, T245, b2_n', mv', sc_w H, T3, sc_p H, T5, t53, oneI]
              rw [s139]
              by_cases k3 : vk v = 3
              · have ff := fof k3
                have rm' : -128 ≤ vo v + fO w ∧ vo v + fO w ≤ -((bytN w : Nat) : Int) := by
                  unfold room at rm
                  rwa [if_pos k3] at rm
                obtain ⟨f, hf⟩ : ∃ f, f = (vw v).toNat := ⟨_, rfl⟩
                obtain ⟨b, hb⟩ : ∃ b, b = (vo v + fO w + 128).toNat := ⟨_, rfl⟩
                have ef : vw v = (f : Int) := by omega
                have eb : vo v + fO w + 128 = (b : Int) := by omega
                have mb8 : ((vo v + fO w + 128) % 8 = 0) = (b % 8 = 0) := by
                  apply propext
                  omega
                obtain ⟨τ, t58, q58⟩ := t58 f b k3 ef eb (by omega) (by omega) d0
                rw [← hf, ← hb, ef, mb8]
                have ec : (¬ vk V = 1 ∧ (¬ (vk v = 3 ∧ bytN w = 8 ∧ b % 8 = 0) ∨ vk V = 3 ∧ (f : Int) < vw V)) = (¬ vk V = 1 ∧ (¬ (bytN w = 8 ∧ b % 8 = 0) ∨ vk V = 3 ∧ (f : Int) < vw V)) := by
                  apply propext
                  constructor
                  · rintro ⟨y1, y2⟩
                    exact ⟨y1, y2.imp (fun y z => y ⟨k3, z⟩) id⟩
                  · rintro ⟨y1, y2⟩
                    exact ⟨y1, y2.imp (fun y z => y z.2) id⟩
                have s : RR (lkB tb257) (B257_139, [some (mR (some 40)), some (mI ((pR S (dR w) : Nat) : Int)), some (mI (vk v)), some (mI (b2 (fL w = 3))), some (mI (vk V))], [], σ) = some (some (mI (if ¬ vk V = 1 ∧ (¬ (bytN w = 8 ∧ b % 8 = 0) ∨ vk V = 3 ∧ (f : Int) < vw V) then 7 else 0)), τ) := by
                  simp only [e257_139, e257_152, Option.getD_some, Option.bind_some, Option.toList_some, Option.toList_none, List.cons_append, List.nil_append, and_self, and_true, true_and, false_and, and_false, ite_self, not_true_eq_false, not_false_eq_true, reduceIte, Nat.reduceEqDiff, ab_I, ab_L, ab_R, ao_I, ao_L, ao_R, gL_sL, gI_sI, gR_sR, gI_sL, gI_sR, gL_sI, gL_sR, gR_sI, gR_sL, k3, t58]
                rw [s]
                simp only [ec]
                by_cases up : ¬ vk V = 1 ∧ (¬ (bytN w = 8 ∧ b % 8 = 0) ∨ vk V = 3 ∧ (f : Int) < vw V)
                · rw [if_pos up] at q58 ⊢
                  rw [if_pos up]
                  exact okc_s ⟨q58.1, fun z => absurd (show (7 : Int) = 0 from z) (by decide)⟩
                · rw [if_neg up] at q58 ⊢
                  rw [if_neg up]
                  by_cases wh : bytN w = 8 ∧ b % 8 = 0
                  · rw [if_pos wh] at q58
                    rw [if_pos (show vk v = 3 ∧ bytN w = 8 ∧ b % 8 = 0 from ⟨k3, wh⟩)]
                    exact okc_s q58
                  · rw [if_neg wh] at q58
                    rw [if_neg (show ¬ (vk v = 3 ∧ bytN w = 8 ∧ b % 8 = 0) from fun z => wh z.2), if_pos k3]
                    exact okc_s q58
              · by_cases d1 : vk V = 1
                · rw [if_neg (show ¬ (¬ vk V = 1 ∧ (¬ (vk v = 3 ∧ bytN w = 8 ∧ (vo v + fO w + 128) % 8 = 0) ∨ vk V = 3 ∧ vw v < vw V)) from fun z => z.1 d1), if_neg (fun z => k3 z.1), if_neg k3]
                  refine okc_o (τ := σ) ?_ (go ht rfl)
                  simp only [e257_139, Option.getD_some, Option.bind_some, Option.toList_some, Option.toList_none, List.cons_append, List.nil_append, and_self, and_true, true_and, false_and, and_false, ite_self, not_true_eq_false, not_false_eq_true, reduceIte, Nat.reduceEqDiff, ab_I, ab_L, ab_R, ao_I, ao_L, ao_R, gL_sL, gI_sI, gR_sR, gI_sL, gI_sR, gL_sI, gL_sR, gR_sI, gR_sL, k3, d1]
                · rw [if_pos (show ¬ vk V = 1 ∧ (¬ (vk v = 3 ∧ bytN w = 8 ∧ (vo v + fO w + 128) % 8 = 0) ∨ vk V = 3 ∧ vw v < vw V) from ⟨d1, Or.inl (fun z => k3 z.1)⟩)]
                  refine okc_o (τ := σ) ?_ (spo_e (by show ¬ (7 : Int) = 0; decide))
                  simp only [e257_139, Option.getD_some, Option.bind_some, Option.toList_some, Option.toList_none, List.cons_append, List.nil_append, and_self, and_true, true_and, false_and, and_false, ite_self, not_true_eq_false, not_false_eq_true, reduceIte, Nat.reduceEqDiff, ab_I, ab_L, ab_R, ao_I, ao_L, ao_R, gL_sL, gI_sI, gR_sR, gI_sL, gI_sR, gL_sI, gL_sR, gR_sI, gR_sL, k3, d1]
            · rw [if_pos rm]
              rw [b2_no rm] at t53
              refine okc_o (τ := σ) ?_ (spo_e (by show ¬ (5 : Int) = 0; decide))
              simp only [e257_50, e257_67, e257_108, e257_122, e257_130, e257_134, Option.getD_some, Option.bind_some, Option.toList_some, Option.toList_none, List.cons_append, List.nil_append, and_self, and_true, true_and, false_and, and_false, ite_self, not_true_eq_false, not_false_eq_true, reduceIte, Nat.reduceEqDiff, ab_I, ab_L, ab_R, ao_I, ao_L, ao_R, gL_sL, gI_sI, gR_sR, gI_sL, gI_sR, gL_sI, gL_sR, gR_sI, gR_sL, c0, d0, T244, b2_0', mb', c2, T245, b2_n', mv', sc_w H, T3, sc_p H, T5, t53]
          · have pf : plcF v = 4 := by
              unfold plcF
              rw [if_neg mb, if_pos mv]
            have mv' : ¬ (vk v = 3 ∨ vk v = 5 ∨ vk v = 7 ∨ vk v = 9) := mv
            rw [pf, if_pos (by decide)]
            refine okc_o (τ := σ) ?_ (spo_e (by show ¬ (4 : Int) = 0; decide))
            simp only [e257_50, e257_67, e257_108, Option.getD_some, Option.bind_some, Option.toList_some, Option.toList_none, List.cons_append, List.nil_append, and_self, and_true, true_and, false_and, and_false, ite_self, not_true_eq_false, not_false_eq_true, reduceIte, Nat.reduceEqDiff, ab_I, ab_L, ab_R, ao_I, ao_L, ao_R, gL_sL, gI_sI, gR_sR, gI_sL, gI_sR, gL_sI, gL_sR, gR_sI, gR_sL, c0, d0, T244, b2_0', mb', c2, T245, b2_n', mv']
theorem T259 (H : SC σ k j E w) (hS : CSt σ k S) (P : PX S E t) (ht : gI σ 40 8 = t) (hw : okMem w) (hl : fL w = 3 ∧ fM w = 192) : okc (MM 259 [mR (some 40)] σ) (some (mI (swpV E S w).1)) (fun τ => spo σ τ k j (swpV E S w).1 (swpV E S w).2 (gI σ 40 4) t) := by
  have F := PX_F P
  unfold okMem at hw
  rw [if_neg (by omega), if_neg (by omega), if_neg (by omega)] at hw
  obtain ⟨⟨-, hd⟩, hi⟩ := hw
  have hs : fS w ≤ 10 := by rcases hi with q | q <;> omega
  have hs9 : fI w % 2 = 1 → ¬ fI w = 241 → fS w ≤ 9 := fun z1 z2 => by
    rcases hi with q | q
    · rcases q.1 with q | q | q | q | q <;> omega
    · exact q.2
  have e1 : iAnd (fI w) 1 = fI w % 2 := by
    rcases hi with q | q
    · rcases q.1 with q | q | q | q | q <;> rw [q] <;> decide
    · rcases q.1 with q | q | q | q | q <;> rw [q] <;> decide
  have hd' := dR_10 hd
  have hs' := sR_10 hs
  have l := pR_lt F hd'
  have hv := cAt_rg hS F.1 hd'
  have wv := okW_r P hd'
  have ov := rV_ok P.1 hd'
  have bn := bytN_c w
  have fo := fO_r w
  have t41 := T241 H hS F hd
  have t42 := T242 H hS F hs
  have t14 := T214r H hS P hd'
  have t14s := T214r H hS P hs'
  have t14z := T214r H hS P (show 0 ≤ 10 by decide)
  have t12z : MM 212 [mR (some k), mI 0] σ = some (some (mI ((pR S 0 : Nat) : Int)), σ) := T212r H hS P (show 0 ≤ 10 by decide)
  have fof := okV_f P.1 hd'
  have l7 : pR S (dR w) + 7 < 100000 := by omega
  have l8 : pR S (dR w) + 8 < 100000 := by omega
  have g7 := gSt (sc_k H) (show pR S (dR w) + 7 < 1188 by omega)
  have g8 := gSt (sc_k H) (show pR S (dR w) + 8 < 1188 by omega)
  obtain ⟨ck, hck⟩ : ∃ ck : Int, ck = (if fI w = 241 then vk (rgV S 0) else 1) := ⟨_, rfl⟩
  have s81 : MM 259 [mR (some 40)] σ = RR (lkB tb259) (B259_81, [some (mR (some 40)), some (mI (fI w)), some (mI (b2 (fI w = 241))), some (mI ((pR S (dR w) : Nat) : Int)), some (mI (vk (rgV S (dR w)))), some (mI ((bytN w : Nat) : Int)), some (mI ck), none, none, none, none, none], [mI (vk (rgV S (sRr w)))], σ) := by
    by_cases q : fI w = 241
    · rw [if_pos q] at hck
      rw [hck]
      simp only [M259, e259_0, e259_7, e259_20, e259_25, e259_34, e259_43, e259_61, e259_64, e259_68, e259_78, Option.getD_some, Option.bind_some, Option.toList_some, Option.toList_none, List.cons_append, List.nil_append, and_self, and_true, true_and, false_and, and_false, ite_self, not_true_eq_false, not_false_eq_true, reduceIte, Nat.reduceEqDiff, ab_I, ab_L, ab_R, ao_I, ao_L, ao_R, gL_sL, gI_sI, gR_sR, gI_sL, gI_sR, gL_sI, gL_sR, gR_sI, gR_sL, sc_w H, T4, q, t41, sc_h H, sc_ao H, t14, sc_p H, T5, b2_yes trivial, oneI, t12z, t14z, t42, t14s]
    · rw [if_neg q] at hck
      rw [hck]
      simp only [M259, e259_0, e259_7, e259_20, e259_25, e259_34, e259_43, e259_68, e259_78, Option.getD_some, Option.bind_some, Option.toList_some, Option.toList_none, List.cons_append, List.nil_append, and_self, and_true, true_and, false_and, and_false, ite_self, not_true_eq_false, not_false_eq_true, reduceIte, Nat.reduceEqDiff, ab_I, ab_L, ab_R, ao_I, ao_L, ao_R, gL_sL, gI_sI, gR_sR, gI_sL, gI_sR, gL_sI, gL_sR, gR_sI, gR_sL, sc_w H, T4, q, t41, sc_h H, sc_ao H, t14, sc_p H, T5, b2_no not_false, t42, t14s]
  rw [s81]
  clear s81
  unfold swpV
  have hk0 : (vk (rgV S (dR w)) = 0 ∨ (fI w = 241 ∧ vk (rgV S 0) = 0) ∨ vk (rgV S (sRr w)) = 0) = (vk (rgV S (dR w)) = 0 ∨ ck = 0 ∨ vk (rgV S (sRr w)) = 0) := by
    apply propext
    rw [hck]
    by_cases q : fI w = 241
    · rw [if_pos q]
      constructor
      · rintro (y | y | y)
        · exact Or.inl y
        · exact Or.inr (Or.inl y.2)
        · exact Or.inr (Or.inr y)
      · rintro (y | y | y)
        · exact Or.inl y
        · exact Or.inr (Or.inl ⟨q, y⟩)
        · exact Or.inr (Or.inr y)
    · rw [if_neg q]
      constructor
      · rintro (y | y | y)
        · exact Or.inl y
        · exact absurd y.1 q
        · exact Or.inr (Or.inr y)
      · rintro (y | y | y)
        · exact Or.inl y
        · omega
        · exact Or.inr (Or.inr y)
  have hk1 : (¬ vk (rgV S (sRr w)) = 1 ∨ fI w = 241 ∧ ¬ vk (rgV S 0) = 1) = (¬ vk (rgV S (sRr w)) = 1 ∨ ¬ ck = 1) := by
    apply propext
    rw [hck]
    by_cases q : fI w = 241
    · rw [if_pos q]
      exact ⟨fun y => y.imp id (fun z => z.2), fun y => y.imp id (fun z => ⟨q, z⟩)⟩
    · rw [if_neg q]
      exact ⟨fun y => y.imp id (fun z => absurd z.1 q), fun y => y.imp id (fun z => absurd rfl z)⟩
  simp only [hk0, hk1]
  by_cases u0 : vk (rgV S (dR w)) = 0 ∨ ck = 0 ∨ vk (rgV S (sRr w)) = 0
  · rw [if_pos u0]
    refine okc_o (τ := σ) ?_ (spo_e (by show ¬ (3 : Int) = 0; decide))
    by_cases a0 : vk (rgV S (dR w)) = 0
    · simp only [e259_81, Option.getD_some, Option.bind_some, Option.toList_some, Option.toList_none, List.cons_append, List.nil_append, and_self, and_true, true_and, false_and, and_false, ite_self, not_true_eq_false, not_false_eq_true, reduceIte, Nat.reduceEqDiff, ab_I, ab_L, ab_R, ao_I, ao_L, ao_R, gL_sL, gI_sI, gR_sR, gI_sL, gI_sR, gL_sI, gL_sR, gR_sI, gR_sL, a0]
    · by_cases b0 : ck = 0
      · simp only [e259_81, Option.getD_some, Option.bind_some, Option.toList_some, Option.toList_none, List.cons_append, List.nil_append, and_self, and_true, true_and, false_and, and_false, ite_self, not_true_eq_false, not_false_eq_true, reduceIte, Nat.reduceEqDiff, ab_I, ab_L, ab_R, ao_I, ao_L, ao_R, gL_sL, gI_sI, gR_sR, gI_sL, gI_sR, gL_sI, gL_sR, gR_sI, gR_sL, a0, b0]
      · have d0 : vk (rgV S (sRr w)) = 0 := (u0.resolve_left a0).resolve_left b0
        simp only [e259_81, Option.getD_some, Option.bind_some, Option.toList_some, Option.toList_none, List.cons_append, List.nil_append, and_self, and_true, true_and, false_and, and_false, ite_self, not_true_eq_false, not_false_eq_true, reduceIte, Nat.reduceEqDiff, ab_I, ab_L, ab_R, ao_I, ao_L, ao_R, gL_sL, gI_sI, gR_sR, gI_sL, gI_sR, gL_sI, gL_sR, gR_sI, gR_sL, a0, b0, d0]
  · rw [if_neg u0]
    have a0 : ¬ vk (rgV S (dR w)) = 0 := fun z => u0 (Or.inl z)
    have b0 : ¬ ck = 0 := fun z => u0 (Or.inr (Or.inl z))
    have d0 : ¬ vk (rgV S (sRr w)) = 0 := fun z => u0 (Or.inr (Or.inr z))
    by_cases mb : isMb (rgV S (dR w))
    · rw [if_pos mb]
      refine okc_o (τ := σ) ?_ (spo_e (by show ¬ (14 : Int) = 0; decide))
      have mb' : vk (rgV S (dR w)) = 6 ∨ vk (rgV S (dR w)) = 10 := mb
      simp only [e259_81, e259_105, Option.getD_some, Option.bind_some, Option.toList_some, Option.toList_none, List.cons_append, List.nil_append, and_self, and_true, true_and, false_and, and_false, ite_self, not_true_eq_false, not_false_eq_true, reduceIte, Nat.reduceEqDiff, ab_I, ab_L, ab_R, ao_I, ao_L, ao_R, gL_sL, gI_sI, gR_sR, gI_sL, gI_sR, gL_sI, gL_sR, gR_sI, gR_sL, a0, b0, d0, T244, b2_0', mb']
    · rw [if_neg mb]
      have mb' : ¬ (vk (rgV S (dR w)) = 6 ∨ vk (rgV S (dR w)) = 10) := mb
      by_cases kp : ¬ vk (rgV S (dR w)) = 3 ∧ ¬ vk (rgV S (dR w)) = 5 ∧ ¬ vk (rgV S (dR w)) = 9
      · rw [if_pos kp]
        refine okc_o (τ := σ) ?_ (spo_e (by show ¬ (4 : Int) = 0; decide))
        simp only [e259_81, e259_105, Option.getD_some, Option.bind_some, Option.toList_some, Option.toList_none, List.cons_append, List.nil_append, and_self, and_true, true_and, false_and, and_false, ite_self, not_true_eq_false, not_false_eq_true, reduceIte, Nat.reduceEqDiff, ab_I, ab_L, ab_R, ao_I, ao_L, ao_R, gL_sL, gI_sI, gR_sR, gI_sL, gI_sR, gL_sI, gL_sR, gR_sI, gR_sL, a0, b0, d0, T244, b2_0', mb', kp.1, kp.2.1, kp.2.2]
      · rw [if_neg kp]
        have mv : mvs (rgV S (dR w)) := by show _ ∨ _; omega
        have t53 := T253 (b := fO w) (n := ((bytN w : Nat) : Int)) H l hv wv ov mv (by omega) (by omega)
        have s148 : RR (lkB tb259) (B259_81, [some (mR (some 40)), some (mI (fI w)), some (mI (b2 (fI w = 241))), some (mI ((pR S (dR w) : Nat) : Int)), some (mI (vk (rgV S (dR w)))), some (mI ((bytN w : Nat) : Int)), some (mI ck), none, none, none, none, none], [mI (vk (rgV S (sRr w)))], σ) = RR (lkB tb259) (B259_148, [some (mR (some 40)), some (mI (fI w)), some (mI (b2 (fI w = 241))), some (mI ((pR S (dR w) : Nat) : Int)), some (mI (vk (rgV S (dR w)))), some (mI ((bytN w : Nat) : Int)), some (mI ck), some (mI (vk (rgV S (sRr w)))), none, none, none, none], [mI (b2 (room E (rgV S (dR w)) (fO w) ((bytN w : Nat) : Int)))], σ) := by
          by_cases k3 : vk (rgV S (dR w)) = 3
          · rw [k3] at mb' ⊢
            simp only [e259_81, e259_105, e259_132, e259_141, Option.getD_some, Option.bind_some, Option.toList_some, Option.toList_none, List.cons_append, List.nil_append, and_self, and_true, true_and, false_and, and_false, ite_self, not_true_eq_false, not_false_eq_true, reduceIte, Nat.reduceEqDiff, ab_I, ab_L, ab_R, ao_I, ao_L, ao_R, gL_sL, gI_sI, gR_sR, gI_sL, gI_sR, gL_sI, gL_sR, gR_sI, gR_sL, Int.reduceEq, b0, d0, T244, b2_0', mb', sc_w H, T3, t53]
          · by_cases k5 : vk (rgV S (dR w)) = 5
            · rw [k5] at mb' ⊢
              simp only [e259_81, e259_105, e259_132, e259_141, Option.getD_some, Option.bind_some, Option.toList_some, Option.toList_none, List.cons_append, List.nil_append, and_self, and_true, true_and, false_and, and_false, ite_self, not_true_eq_false, not_false_eq_true, reduceIte, Nat.reduceEqDiff, ab_I, ab_L, ab_R, ao_I, ao_L, ao_R, gL_sL, gI_sI, gR_sR, gI_sL, gI_sR, gL_sI, gL_sR, gR_sI, gR_sL, Int.reduceEq, b0, d0, T244, b2_0', mb', sc_w H, T3, t53]
            · have k9 : vk (rgV S (dR w)) = 9 := by omega
              rw [k9] at mb' ⊢
              simp only [e259_81, e259_105, e259_132, e259_141, Option.getD_some, Option.bind_some, Option.toList_some, Option.toList_none, List.cons_append, List.nil_append, and_self, and_true, true_and, false_and, and_false, ite_self, not_true_eq_false, not_false_eq_true, reduceIte, Nat.reduceEqDiff, ab_I, ab_L, ab_R, ao_I, ao_L, ao_R, gL_sL, gI_sI, gR_sR, gI_sL, gI_sR, gL_sI, gL_sR, gR_sI, gR_sL, Int.reduceEq, b0, d0, T244, b2_0', mb', sc_w H, T3, t53]
        rw [s148]
        by_cases rm : room E (rgV S (dR w)) (fO w) ((bytN w : Nat) : Int)
        · rw [if_neg (not_not_intro rm), b2_yes rm]
          have r7 : gL σ (k + 1 + 0) (pR S (dR w) + 7) + iL (fO w) = iL (vo (rgV S (dR w)) + fO w) := by rw [rd_7 hv, iLa]
          have r8 := rd_8 hv
          -- behind the bytes
          have tail : ∀ (T : ST) (σ1 : MS) (x8 x10 : B64), crq σ1 σ k → CSt σ1 k T → sF T = sF S → okc (RR (lkB tb259) (B259_254, [some (mR (some 40)), some (mI (fI w)), some (mI (b2 (fI w = 241))), some (mI ((pR S (dR w) : Nat) : Int)), some (mI (vk (rgV S (dR w)))), some (mI ((bytN w : Nat) : Int)), some (mI ck), some (mI (vk (rgV S (sRr w)))), some (mL x8), none, some (mL x10), none], [], σ1)) (some (mI 0)) (fun τ => spo σ τ k j 0 (if fI w = 241 then wV T 0 (numV (wideN (bytN w))) else if fI w % 2 = 1 then wV T (sRr w) (numV (wideN (bytN w))) else T) (gI σ 40 4) t) := fun T σ1 x8 x10 c1 c2 c3 => by
            have H1 := SC_q (sfq_c (j := j) c1) H
            have t63 := T63 (σ := σ1) (k := 42) (n := bytN w) (kc_42 σ1) (by omega)
            have q2 : nfq (wC σ1 42 (wideN (bytN w))) σ1 := nfq_w (by omega)
            have H2 := SC_n q2 H1
            have S2 := CSt_n (sc_c H) q2 c2
            have FT : 1 ≤ sF T ∧ sF T ≤ 4 := by rw [c3]; exact F
            have eP : ∀ r, pR T r = pR S r := fun r => by
              show 297 * (sF T - 1) + 11 * r = 297 * (sF S - 1) + 11 * r
              rw [c3]
            have fin : ∀ r, r ≤ 9 → ∃ τ, MM 218 [mR (some k), mI ((pR S r : Nat) : Int), mR (some 42)] (wC σ1 42 (wideN (bytN w))) = some (none, τ) ∧ spo σ τ k j 0 (wV T r (numV (wideN (bytN w)))) (gI σ 40 4) t := fun r hr => by
              have sc := sc_c H
              obtain ⟨τ, t18, q18⟩ := T218 (j := 42) (pl := pR S r) (sc_k H2) (kc_42 (wC σ1 42 (wideN (bytN w)))) (by omega) (pR_lt F (by omega))
              rw [rC_wC, if_pos rfl] at q18
              refine ⟨τ, t18, sfq_t (sfq_v q18) (sfq_t (sfq_n q2) (sfq_c c1)), fun _ => ⟨CSt_w FT S2 hr (by rw [← eP] at q18; exact q18), ?_, ?_, ?_⟩⟩
              · rw [q18.1, q2.1, c1.1]
              · rw [q18.1, q2.1, c1.1]
              · rw [q18.1, q2.1, c1.1, ht]
            by_cases q : fI w = 241
            · rw [if_pos q, b2_yes q]
              obtain ⟨τ, t18, sp⟩ := fin 0 (by decide)
              have t12 : MM 212 [mR (some k), mI 0] (wC σ1 42 (wideN (bytN w))) = some (some (mI ((pR S 0 : Nat) : Int)), wC σ1 42 (wideN (bytN w))) := by
                have := T212 (r := 0) (sc_k H2) S2.1.1 FT (by decide)
                rw [show 297 * (sF T - 1) + 11 * 0 = pR S 0 from eP 0] at this
                exact this
              refine okc_o (τ := τ) ?_ sp
              have e2 : ¬ iAnd (fI w) 1 = 0 := by rw [e1]; omega
              simp only [e259_254, e259_269, e259_285, e259_292, e259_299, Option.getD_some, Option.bind_some, Option.toList_some, Option.toList_none, List.cons_append, List.nil_append, and_self, and_true, true_and, false_and, and_false, ite_self, not_true_eq_false, not_false_eq_true, reduceIte, Nat.reduceEqDiff, ab_I, ab_L, ab_R, ao_I, ao_L, ao_R, gL_sL, gI_sI, gR_sR, gI_sL, gI_sR, gL_sI, gL_sR, gR_sI, gR_sL, e2, t63, oneI, sc_h H2, sc_ao H2, t12, t18]
            · rw [if_neg q, b2_no q]
              by_cases od : fI w % 2 = 1
              · rw [if_pos od]
                have s9 : sRr w ≤ 9 := by have := hs9 od q; have := (fld_rng w).2.2.1; show (fS w).toNat ≤ 9; omega
                obtain ⟨τ, t18, sp⟩ := fin (sRr w) s9
                have t42' : MM 242 [mR (some 40)] (wC σ1 42 (wideN (bytN w))) = some (some (mI ((pR S (sRr w) : Nat) : Int)), wC σ1 42 (wideN (bytN w))) := by
                  have := T242 H2 S2 FT hs
                  rwa [eP] at this
                refine okc_o (τ := τ) ?_ sp
                have e2 : ¬ iAnd (fI w) 1 = 0 := by rw [e1]; omega
                simp only [e259_254, e259_269, e259_292, e259_299, Option.getD_some, Option.bind_some, Option.toList_some, Option.toList_none, List.cons_append, List.nil_append, and_self, and_true, true_and, false_and, and_false, ite_self, not_true_eq_false, not_false_eq_true, reduceIte, Nat.reduceEqDiff, ab_I, ab_L, ab_R, ao_I, ao_L, ao_R, gL_sL, gI_sI, gR_sR, gI_sL, gI_sR, gL_sI, gL_sR, gR_sI, gR_sL, e2, t63, sc_h H2, sc_ao H2, t42', t18]
              · rw [if_neg od]
                have e2 : iAnd (fI w) 1 = 0 := by rw [e1]; omega
                refine okc_o (τ := σ1) ?_ ⟨sfq_c c1, fun _ => ⟨c2, c1.1 _ _, c1.1 _ _, (c1.1 _ _).trans ht⟩⟩
                simp only [e259_254, e259_299, Option.getD_some, Option.bind_some, Option.toList_some, Option.toList_none, List.cons_append, List.nil_append, and_self, and_true, true_and, false_and, and_false, ite_self, not_true_eq_false, not_false_eq_true, reduceIte, Nat.reduceEqDiff, ab_I, ab_L, ab_R, ao_I, ao_L, ao_R, gL_sL, gI_sI, gR_sR, gI_sL, gI_sR, gL_sI, gL_sR, gR_sI, gR_sL, e2]
          by_cases k3 : vk (rgV S (dR w)) = 3
          · have ff := fof k3
            have rm' : -128 ≤ vo (rgV S (dR w)) + fO w ∧ vo (rgV S (dR w)) + fO w ≤ -((bytN w : Nat) : Int) := by
              unfold room at rm
              rwa [if_pos k3] at rm
            obtain ⟨f, hf⟩ : ∃ f, f = (vw (rgV S (dR w))).toNat := ⟨_, rfl⟩
            obtain ⟨b, hb⟩ : ∃ b, b = (vo (rgV S (dR w)) + fO w + 128).toNat := ⟨_, rfl⟩
            have ef : vw (rgV S (dR w)) = (f : Int) := by omega
            have eb : vo (rgV S (dR w)) + fO w + 128 = (b : Int) := by omega
            have fF : f < sF S := by omega
            rw [← hf, ← hb]
            rw [ef] at r8
            have t26 := T226 (f := f) (b := b) (n := bytN w) (a := vo (rgV S (dR w)) + fO w) (sc_k H) hS P.2.1 (fun i hi => (okW_S P.1 P.2.1 P.2.2.1 P.2.2.2 hi).1) F.2 fF eb (by omega)
            by_cases ar : areS S f b (bytN w) = true
            · rw [if_neg (show ¬ (vk (rgV S (dR w)) = 3 ∧ areS S f b (bytN w) = false) from fun z => by rw [ar] at z; cases z.2)]
              rw [b2_yes ar] at t26
              have s216 : RR (lkB tb259) (B259_148, [some (mR (some 40)), some (mI (fI w)), some (mI (b2 (fI w = 241))), some (mI ((pR S (dR w) : Nat) : Int)), some (mI (vk (rgV S (dR w)))), some (mI ((bytN w : Nat) : Int)), some (mI ck), some (mI (vk (rgV S (sRr w)))), none, none, none, none], [mI 1], σ) = RR (lkB tb259) (B259_216, [some (mR (some 40)), some (mI (fI w)), some (mI (b2 (fI w = 241))), some (mI ((pR S (dR w) : Nat) : Int)), some (mI (vk (rgV S (dR w)))), some (mI ((bytN w : Nat) : Int)), some (mI ck), some (mI (vk (rgV S (sRr w)))), some (mL (iL (f : Int))), none, some (mL (iL (vo (rgV S (dR w)) + fO w))), none], [], σ) := by
                simp only [e259_148, e259_186, e259_210, Option.getD_some, Option.bind_some, Option.toList_some, Option.toList_none, List.cons_append, List.nil_append, and_self, and_true, true_and, false_and, and_false, ite_self, not_true_eq_false, not_false_eq_true, reduceIte, Nat.reduceEqDiff, ab_I, ab_L, ab_R, ao_I, ao_L, ao_R, gL_sL, gI_sI, gR_sR, gI_sL, gI_sR, gL_sI, gL_sR, gR_sI, gR_sL, oneI, sc_h H, sc_ao H, wp7 l7, wp8 l8, g7, g8, Int.toNat_natCast, r8, sc_w H, T3, r7, k3, t26]
              rw [s216]
              by_cases u1 : ¬ vk (rgV S (sRr w)) = 1 ∨ ¬ ck = 1
              · rw [if_pos u1]
                refine okc_o (τ := σ) ?_ (spo_e (by show ¬ (7 : Int) = 0; decide))
                by_cases c1 : ck = 1
                · have s1 : ¬ vk (rgV S (sRr w)) = 1 := u1.resolve_right (not_not_intro c1)
                  simp only [e259_216, Option.getD_some, Option.bind_some, Option.toList_some, Option.toList_none, List.cons_append, List.nil_append, and_self, and_true, true_and, false_and, and_false, ite_self, not_true_eq_false, not_false_eq_true, reduceIte, Nat.reduceEqDiff, ab_I, ab_L, ab_R, ao_I, ao_L, ao_R, gL_sL, gI_sI, gR_sR, gI_sL, gI_sR, gL_sI, gL_sR, gR_sI, gR_sL, c1, s1]
                · simp only [e259_216, Option.getD_some, Option.bind_some, Option.toList_some, Option.toList_none, List.cons_append, List.nil_append, and_self, and_true, true_and, false_and, and_false, ite_self, not_true_eq_false, not_false_eq_true, reduceIte, Nat.reduceEqDiff, ab_I, ab_L, ab_R, ao_I, ao_L, ao_R, gL_sL, gI_sI, gR_sR, gI_sL, gI_sR, gL_sI, gL_sR, gR_sI, gR_sL, c1]
              · rw [if_neg u1]
                have c1 : ck = 1 := Classical.byContradiction fun z => u1 (Or.inr z)
                have s1 : vk (rgV S (sRr w)) = 1 := Classical.byContradiction fun z => u1 (Or.inl z)
                obtain ⟨τ, e27, c27, q27⟩ := T227 (f := f) (b := b) (n := bytN w) (c := bytN w) (a := vo (rgV S (dR w)) + fO w) (sc_k H) hS P.2.1 (fun i hi => (okW_S P.1 P.2.1 P.2.2.1 P.2.2.2 hi).1) F.2 fF eb (by omega) (Nat.le_refl _)
                have tl := tail (putB S f b (bytN w) (bytN w)) τ (iL (f : Int)) (iL (vo (rgV S (dR w)) + fO w)) q27 c27 rfl
                simp only [k3, if_true]
                rw [k3, c1, s1] at tl
                simp only [e259_216, Option.getD_some, Option.bind_some, Option.toList_some, Option.toList_none, List.cons_append, List.nil_append, and_self, and_true, true_and, false_and, and_false, ite_self, not_true_eq_false, not_false_eq_true, reduceIte, Nat.reduceEqDiff, ab_I, ab_L, ab_R, ao_I, ao_L, ao_R, gL_sL, gI_sI, gR_sR, gI_sL, gI_sR, gL_sI, gL_sR, gR_sI, gR_sL, c1, s1, k3, sc_h H, sc_ao H, e27]
                exact tl
            · have ar' : areS S f b (bytN w) = false := by simpa using ar
              rw [if_pos (show vk (rgV S (dR w)) = 3 ∧ areS S f b (bytN w) = false from ⟨k3, ar'⟩)]
              rw [b2_no ar] at t26
              refine okc_o (τ := σ) ?_ (spo_e (by show ¬ (6 : Int) = 0; decide))
              simp only [e259_148, e259_186, e259_210, Option.getD_some, Option.bind_some, Option.toList_some, Option.toList_none, List.cons_append, List.nil_append, and_self, and_true, true_and, false_and, and_false, ite_self, not_true_eq_false, not_false_eq_true, reduceIte, Nat.reduceEqDiff, ab_I, ab_L, ab_R, ao_I, ao_L, ao_R, gL_sL, gI_sI, gR_sR, gI_sL, gI_sR, gL_sI, gL_sR, gR_sI, gR_sL, oneI, sc_h H, sc_ao H, wp7 l7, wp8 l8, g7, g8, Int.toNat_natCast, r8, sc_w H, T3, r7, k3, t26]
          · rw [if_neg (fun z => k3 z.1)]
            have s216 : RR (lkB tb259) (B259_148, [some (mR (some 40)), some (mI (fI w)), some (mI (b2 (fI w = 241))), some (mI ((pR S (dR w) : Nat) : Int)), some (mI (vk (rgV S (dR w)))), some (mI ((bytN w : Nat) : Int)), some (mI ck), some (mI (vk (rgV S (sRr w)))), none, none, none, none], [mI 1], σ) = RR (lkB tb259) (B259_216, [some (mR (some 40)), some (mI (fI w)), some (mI (b2 (fI w = 241))), some (mI ((pR S (dR w) : Nat) : Int)), some (mI (vk (rgV S (dR w)))), some (mI ((bytN w : Nat) : Int)), some (mI ck), some (mI (vk (rgV S (sRr w)))), some (mL (iL (vw (rgV S (dR w))))), none, some (mL (iL (vo (rgV S (dR w)) + fO w))), none], [], σ) := by
              simp only [e259_148, e259_186, Option.getD_some, Option.bind_some, Option.toList_some, Option.toList_none, List.cons_append, List.nil_append, and_self, and_true, true_and, false_and, and_false, ite_self, not_true_eq_false, not_false_eq_true, reduceIte, Nat.reduceEqDiff, ab_I, ab_L, ab_R, ao_I, ao_L, ao_R, gL_sL, gI_sI, gR_sR, gI_sL, gI_sR, gL_sI, gL_sR, gR_sI, gR_sL, oneI, sc_h H, sc_ao H, wp7 l7, wp8 l8, g7, g8, Int.toNat_natCast, r8, sc_w H, T3, r7, k3]
            rw [s216]
            by_cases u1 : ¬ vk (rgV S (sRr w)) = 1 ∨ ¬ ck = 1
            · rw [if_pos u1]
              refine okc_o (τ := σ) ?_ (spo_e (by show ¬ (7 : Int) = 0; decide))
              by_cases c1 : ck = 1
              · have s1 : ¬ vk (rgV S (sRr w)) = 1 := u1.resolve_right (not_not_intro c1)
                simp only [e259_216, Option.getD_some, Option.bind_some, Option.toList_some, Option.toList_none, List.cons_append, List.nil_append, and_self, and_true, true_and, false_and, and_false, ite_self, not_true_eq_false, not_false_eq_true, reduceIte, Nat.reduceEqDiff, ab_I, ab_L, ab_R, ao_I, ao_L, ao_R, gL_sL, gI_sI, gR_sR, gI_sL, gI_sR, gL_sI, gL_sR, gR_sI, gR_sL, c1, s1]
              · simp only [e259_216, Option.getD_some, Option.bind_some, Option.toList_some, Option.toList_none, List.cons_append, List.nil_append, and_self, and_true, true_and, false_and, and_false, ite_self, not_true_eq_false, not_false_eq_true, reduceIte, Nat.reduceEqDiff, ab_I, ab_L, ab_R, ao_I, ao_L, ao_R, gL_sL, gI_sI, gR_sR, gI_sL, gI_sR, gL_sI, gL_sR, gR_sI, gR_sL, c1]
            · rw [if_neg u1]
              have c1 : ck = 1 := Classical.byContradiction fun z => u1 (Or.inr z)
              have s1 : vk (rgV S (sRr w)) = 1 := Classical.byContradiction fun z => u1 (Or.inl z)
              have tl := tail S σ (iL (vw (rgV S (dR w)))) (iL (vo (rgV S (dR w)) + fO w)) (crq_r _ _) hS rfl
              simp only [k3, if_false]
              rw [c1, s1] at tl
              simp only [e259_216, Option.getD_some, Option.bind_some, Option.toList_some, Option.toList_none, List.cons_append, List.nil_append, and_self, and_true, true_and, false_and, and_false, ite_self, not_true_eq_false, not_false_eq_true, reduceIte, Nat.reduceEqDiff, ab_I, ab_L, ab_R, ao_I, ao_L, ao_R, gL_sL, gI_sI, gR_sR, gI_sL, gI_sR, gL_sI, gL_sR, gR_sI, gR_sL, c1, s1, k3]
              exact tl
        · rw [if_pos rm, b2_no rm]
          refine okc_o (τ := σ) ?_ (spo_e (by show ¬ (5 : Int) = 0; decide))
          simp only [e259_148, Option.getD_some, Option.bind_some, Option.toList_some, Option.toList_none, List.cons_append, List.nil_append, and_self, and_true, true_and, false_and, and_false, ite_self, not_true_eq_false, not_false_eq_true, reduceIte, Nat.reduceEqDiff, ab_I, ab_L, ab_R, ao_I, ao_L, ao_R, gL_sL, gI_sI, gR_sR, gI_sL, gI_sR, gL_sI, gL_sR, gR_sI, gR_sL]
end CSTO
-- FILE 89.cjmp
/-! ===== the class's FUNCTIONS, ways, what is decided ===== -/
/-- what is behind an instruction: the ways -/
def spj (σ τ : MS) (k j : Nat) (r : JR) : Prop := sfq τ σ k j ∧ (r.1 = 0 → gI τ 40 8 = r.2.2.2 ∧ match r.2.1, r.2.2.1 with
  | some (n, S1), none => CSt τ k S1 ∧ gI τ 40 4 = n ∧ gI τ 40 3 = 0
  | some (n, S1), some (g, S2) => (CSt τ k S1 ∧ gI τ 40 4 = n) ∧ (gI τ 40 3 = 1 ∧ gI τ 40 5 = g ∧ CSt τ j S2) ∧ gI τ j 7 = gI σ k 7 ∧ gR τ j 6 = gR σ k 6
  | none, _ => gI τ 40 4 = -1 ∧ gI τ 40 3 = 0)
section CJMP
variable {τ σ ρ : MS} {k j : Nat} {E : EV} {w : B64} {S S' : ST} {t n g : Int} {c : Int} {x y : N6}
theorem spj_f {f : Int} {a b : WY} {t' : Int} (hf : ¬ f = 0) (q : sfq τ σ k j) : spj σ τ k j (f, a, b, t') := ⟨q, fun z => absurd z hf⟩
theorem spj_1 {f t' : Int} (h3 : gI σ 40 3 = 0) (h : spo σ τ k j f S' n t') : spj σ τ k j (wayJ f n S' t') := by
  unfold wayJ
  by_cases f0 : f = 0
  · rw [if_pos f0]
    obtain ⟨a, b, c, d⟩ := h.2 f0
    exact ⟨h.1, fun _ => ⟨d, a, b, c.trans h3⟩⟩
  · rw [if_neg f0]
    exact spj_f f0 h.1
theorem wayJ_1 {f t' : Int} : (wayJ f n S' t').1 = f := by
  unfold wayJ
  split
  · rename_i h; exact h.symm
  · rfl
theorem T260 (H : SC σ k j E w) (hS : CSt σ k S) (P : PX S E t) (ht : gI σ 40 8 = t) (h4 : gI σ 40 4 = n) (h3 : gI σ 40 3 = 0) (hg : -2147483648 ≤ n + fI w ∧ n + fI w < 2147483648) : okc (MM 260 [mR (some 40)] σ) (some (mI (entJ S (n + fI w) n t).1)) (fun τ => spj σ τ k j (entJ S (n + fI w) n t)) := by
  have F := PX_F P
  have sc := sc_c H
  unfold entJ
  by_cases c4 : sF S = 4
  · rw [if_pos c4]
    refine okc_o (τ := σ) ?_ (spj_f (by decide) (sfq_r _ _ _))
    have e : gI σ k 3 = 4 := by rw [hS.1.1, c4]; rfl
    simp only [M260, e260_0, Option.getD_some, Option.bind_some, Option.toList_some, Option.toList_none, List.cons_append, List.nil_append, and_self, and_true, true_and, false_and, and_false, ite_self, not_true_eq_false, not_false_eq_true, reduceIte, Nat.reduceEqDiff, ab_I, ab_L, ab_R, ao_I, ao_L, ao_R, gL_sL, gI_sI, gR_sR, gI_sL, gI_sR, gL_sI, gL_sR, gR_sI, gR_sL, sc_h H, sc_ao H, e]
  · rw [if_neg c4]
    have e : ¬ gI σ k 3 = 4 := by rw [hS.1.1]; omega
    obtain ⟨τ, t19, q1, q2, q3, q4⟩ := T219 (g := n) (sc_k H) (by omega) hS
    have cs : csq τ σ k := ⟨fun k' s p1 p2 p3 => q2 k' s (fun z => p1 ⟨z.1, Or.inl z.2⟩) p2, q3, q4⟩
    have H1 := SC_q (sfq_s (j := j) cs) H
    have g4 : gI τ 40 4 = n := (q2 _ _ (by omega) (by omega)).trans h4
    have wg := w32_i hg.1 hg.2
    refine okc_o (τ := sI τ 40 4 (n + fI w)) ?_ ⟨sfq_t (sfq_i (by omega)) (sfq_s cs), fun _ => ⟨?_, CSt_i sc q1, ?_, ?_⟩⟩
    · simp only [M260, e260_0, e260_25, e260_37, Option.getD_some, Option.bind_some, Option.toList_some, Option.toList_none, List.cons_append, List.nil_append, and_self, and_true, true_and, false_and, and_false, ite_self, not_true_eq_false, not_false_eq_true, reduceIte, Nat.reduceEqDiff, ab_I, ab_L, ab_R, ao_I, ao_L, ao_R, gL_sL, gI_sI, gR_sR, gI_sL, gI_sR, gL_sI, gL_sR, gR_sI, gR_sL, sc_h H, sc_ao H, e, h4, t19, sc_w H1, T4, g4, wg]
    · rw [gI_sI, if_neg (by omega), q2 _ _ (by omega) (by omega), ht]
    · rw [gI_sI, if_pos ⟨rfl, rfl⟩]
    · rw [gI_sI, if_neg (by omega), q2 _ _ (by omega) (by omega), h3]
theorem T261 (H : SC σ k j E w) (hS : CSt σ k S) (P : PX S E t) (ht : gI σ 40 8 = t) (h3 : gI σ 40 3 = 0) : okc (MM 261 [mR (some 40)] σ) (some (mI (exiJ S t).1)) (fun τ => spj σ τ k j (exiJ S t)) := by
  have F := PX_F P
  have sc := sc_c H
  have t12 : MM 212 [mR (some k), mI 0] σ = some (some (mI ((pR S 0 : Nat) : Int)), σ) := T212r H hS P (show 0 ≤ 10 by decide)
  have t14 := T214r H hS P (show 0 ≤ 10 by decide)
  unfold exiJ
  by_cases z0 : vk (rgV S 0) = 0
  · rw [if_pos z0]
    refine okc_o (τ := σ) ?_ (spj_f (by decide) (sfq_r _ _ _))
    simp only [M261, e261_0, e261_12, e261_15, Option.getD_some, Option.bind_some, Option.toList_some, Option.toList_none, List.cons_append, List.nil_append, and_self, and_true, true_and, false_and, and_false, ite_self, not_true_eq_false, not_false_eq_true, reduceIte, Nat.reduceEqDiff, ab_I, ab_L, ab_R, ao_I, ao_L, ao_R, gL_sL, gI_sI, gR_sR, gI_sL, gI_sR, gL_sI, gL_sR, gR_sI, gR_sL, sc_h H, sc_ao H, t12, t14, z0]
  · rw [if_neg z0]
    by_cases z1 : vk (rgV S 0) = 1
    · rw [if_neg (not_not_intro z1)]
      by_cases f1 : sF S = 1
      · rw [if_pos f1]
        have e : gI σ k 3 ≤ 1 := by rw [hS.1.1, f1]; decide
        have H1 : SC (sI σ 40 4 (-1)) k j E w := SC_q (sfq_i (by omega)) H
        have g4 : gI (sI σ 40 4 (-1)) k 4 = ((sH S).length : Int) := by rw [gI_sI, if_neg (by omega)]; exact hS.1.2
        have q : sfq (sI σ 40 4 (-1)) σ k j := sfq_i (by omega)
        by_cases h0 : sH S = []
        · rw [if_pos h0]
          have le : ((sH S).length : Int) ≤ 0 := by rw [h0]; decide
          refine okc_o (τ := sI σ 40 4 (-1)) ?_ ⟨q, fun _ => ⟨?_, ?_, ?_⟩⟩
          · have hh := sc_h H1
            have ha := sc_ao H1
            simp only [M261, e261_0, e261_12, e261_15, Option.getD_some, Option.bind_some, Option.toList_some, Option.toList_none, List.cons_append, List.nil_append, and_self, and_true, true_and, false_and, and_false, ite_self, not_true_eq_false, not_false_eq_true, reduceIte, Nat.reduceEqDiff, ab_I, ab_L, ab_R, ao_I, ao_L, ao_R, gL_sL, gI_sI, gR_sR, gI_sL, gI_sR, gL_sI, gL_sR, gR_sI, gR_sL, sc_h H, sc_ao H, t12, t14, z1, oneI, e, hh, ha, g4, le]
          · rw [gI_sI, if_neg (by omega)]; exact ht
          · rw [gI_sI, if_pos ⟨rfl, rfl⟩]
          · rw [gI_sI, if_neg (by omega)]; exact h3
        · rw [if_neg h0]
          have le : ¬ ((sH S).length : Int) ≤ 0 := by
            have : 0 < (sH S).length := List.length_pos_iff.mpr h0
            omega
          refine okc_o (τ := sI σ 40 4 (-1)) ?_ (spj_f (by decide) q)
          have hh := sc_h H1
          have ha := sc_ao H1
          simp only [M261, e261_0, e261_12, e261_15, Option.getD_some, Option.bind_some, Option.toList_some, Option.toList_none, List.cons_append, List.nil_append, and_self, and_true, true_and, false_and, and_false, ite_self, not_true_eq_false, not_false_eq_true, reduceIte, Nat.reduceEqDiff, ab_I, ab_L, ab_R, ao_I, ao_L, ao_R, gL_sL, gI_sI, gR_sR, gI_sL, gI_sR, gL_sI, gL_sR, gR_sI, gR_sL, sc_h H, sc_ao H, t12, t14, z1, oneI, e, hh, ha, g4, le]
      · rw [if_neg f1]
        have e : ¬ gI σ k 3 ≤ 1 := by rw [hS.1.1]; omega
        obtain ⟨τ, t20, q1, q2, q3, q4⟩ := T220 (sc_k H) (by omega) hS
        have cs : csq τ σ k := ⟨fun k' s p1 p2 p3 => q2 k' s (fun z => p1 ⟨z.1, Or.inl z.2⟩), q3, q4⟩
        refine okc_o (τ := sI τ 40 4 (sB S (sF S - 1))) ?_ ⟨sfq_t (sfq_i (by omega)) (sfq_s cs), fun _ => ⟨?_, CSt_i sc q1, ?_, ?_⟩⟩
        · simp only [M261, e261_0, e261_12, e261_15, e261_49, Option.getD_some, Option.bind_some, Option.toList_some, Option.toList_none, List.cons_append, List.nil_append, and_self, and_true, true_and, false_and, and_false, ite_self, not_true_eq_false, not_false_eq_true, reduceIte, Nat.reduceEqDiff, ab_I, ab_L, ab_R, ao_I, ao_L, ao_R, gL_sL, gI_sI, gR_sR, gI_sL, gI_sR, gL_sI, gL_sR, gR_sI, gR_sL, sc_h H, sc_ao H, t12, t14, z1, oneI, e, t20]
        · rw [gI_sI, if_neg (by omega), q2 _ _ (by omega), ht]
        · rw [gI_sI, if_pos ⟨rfl, rfl⟩]
        · rw [gI_sI, if_neg (by omega), q2 _ _ (by omega), h3]
    · rw [if_pos z1]
      refine okc_o (τ := σ) ?_ (spj_f (by decide) (sfq_r _ _ _))
      simp only [M261, e261_0, e261_12, e261_15, Option.getD_some, Option.bind_some, Option.toList_some, Option.toList_none, List.cons_append, List.nil_append, and_self, and_true, true_and, false_and, and_false, ite_self, not_true_eq_false, not_false_eq_true, reduceIte, Nat.reduceEqDiff, ab_I, ab_L, ab_R, ao_I, ao_L, ao_R, gL_sL, gI_sI, gR_sR, gI_sL, gI_sR, gL_sI, gL_sR, gR_sI, gR_sL, sc_h H, sc_ao H, t12, t14, z0, z1]
/-- both ways are gone -/
def ptP (τ σ : MS) (k j : Nat) (S : ST) : Prop := (sfq τ σ k j ∧ CSt τ k S ∧ CSt τ j S) ∧ (gI τ 40 3 = 1 ∧ gI τ 40 4 = gI σ 40 4 ∧ gI τ 40 5 = gI σ 40 5 ∧ gI τ 40 8 = gI σ 40 8) ∧ (gI τ j 7 = gI σ k 7 ∧ gR τ j 6 = gR σ k 6) ∧ ∀ i s, 41 ≤ i → i ≤ 50 → gL τ i s = gL σ i s
theorem T263 (H : SC σ k j E w) (hS : CSt σ k S) (P : PX S E t) (hl : ak σ 2 (gR σ k 6)) : okc (MM 263 [mR (some 40)] σ) none (fun τ => ptP τ σ k j S) := by
  have F := PX_F P
  have sc := sc_c H
  have sj : stC j := H.1.2.2.2
  have dd := H.1.2.1
  have q0 : sfq (sI σ 40 3 1) σ k j := sfq_i (by omega)
  have H1 := SC_q q0 H
  obtain ⟨τ, t11, c1, ⟨c5, c7, c6⟩, d1, d2, d3, d4⟩ := T211 (σ := sI σ 40 3 1) (k := j) (j := k) (sc_j H1) (sc_k H1) (by omega) (CSt_i sc hS) F P.1.2.2.2.2.2.1 hl
  have q1 : sfq τ (sI σ 40 3 1) k j := ⟨fun k' s _ _ p => d1 k' s p, fun k' s _ _ p => d2 k' s p, fun k' s p => d3 k' s p, d4⟩
  refine okc_o (τ := τ) ?_ ⟨⟨sfq_t q1 q0, ?_, c1⟩, ⟨?_, ?_, ?_, ?_⟩, ⟨?_, ?_⟩, fun i s h1 h2 => ?_⟩
  · have hh := sc_h H1
    have ho := sc_o H1
    have ha : ao (sI σ 40 3 1) 8 (some j) = True := aoS (sc_j H1)
    simp only [M263, e263_0, e263_16, Option.getD_some, Option.bind_some, Option.toList_some, Option.toList_none, List.cons_append, List.nil_append, and_self, and_true, true_and, false_and, and_false, ite_self, not_true_eq_false, not_false_eq_true, reduceIte, Nat.reduceEqDiff, ab_I, ab_L, ab_R, ao_I, ao_L, ao_R, gL_sL, gI_sI, gR_sR, gI_sL, gI_sR, gL_sI, gL_sR, gR_sI, gR_sL, hh, ho, ha, t11]
  · exact CSt_q (fun s => d1 _ _ (by omega)) (fun s => d1 _ _ (by omega)) (fun s => d1 _ _ (by omega)) (fun s => d2 _ _ (by omega)) (CSt_i sc hS)
  · rw [d1 _ _ (by omega), gI_sI, if_pos ⟨rfl, rfl⟩]
  · rw [d1 _ _ (by omega), gI_sI, if_neg (by omega)]
  · rw [d1 _ _ (by omega), gI_sI, if_neg (by omega)]
  · rw [d1 _ _ (by omega), gI_sI, if_neg (by omega)]
  · rw [c7, gI_sI, if_neg (by omega)]
  · rw [c6]; rfl
  · rw [d2 _ _ (by omega)]; rfl
/-- a change of the one way, then a change of the other -/
theorem spj_2 {S1 S2 : ST} {τ1 τ2 : MS} (H : SC σ k j E w) (ht : gI σ 40 8 = t) (h4 : gI σ 40 4 = n) (h5 : gI σ 40 5 = g) (p : ptP ρ σ k j S) (c1 : CSt τ1 k S1) (q1 : csq τ1 ρ k) (c2 : CSt τ2 j S2) (q2 : csq τ2 τ1 j) : spj σ τ2 k j (0, some (n, S1), some (g, S2), t) := by
  obtain ⟨⟨p1, p2, p3⟩, ⟨p4, p5, p6, p7⟩, ⟨p8, p9⟩, -⟩ := p
  have sc := sc_c H
  have sj : stC j := H.1.2.2.2
  have dd := H.1.2.1
  have q2' : sfq τ2 τ1 k j := ⟨fun k' s _ _ r => q2.1 k' s (by omega) (by omega) (by omega), fun k' s _ _ r => q2.2.1 k' s r, fun k' s _ => gR_r q2.2.2, by rw [q2.2.2]⟩
  have o1 : ∀ s, gI τ2 40 s = gI ρ 40 s := fun s => (q2.1 _ _ (by omega) (by omega) (by omega)).trans (q1.1 _ _ (by omega) (by omega) (by omega))
  refine ⟨sfq_t q2' (sfq_t (sfq_s q1) p1), fun _ => ⟨?_, ⟨?_, ?_⟩, ⟨?_, ?_, c2⟩, ?_, ?_⟩⟩
  · show gI τ2 40 8 = t
    rw [o1, p7, ht]
  · exact CSt_q (fun s => q2.1 _ _ (by omega) (by omega) (by omega)) (fun s => q2.1 _ _ (by omega) (by omega) (by omega)) (fun s => q2.1 _ _ (by omega) (by omega) (by omega)) (fun s => q2.2.1 _ _ (by omega)) c1
  · rw [o1, p5, h4]
  · rw [o1, p4]
  · rw [o1, p6, h5]
  · rw [q2.1 _ _ (by omega) (by omega) (by omega), q1.1 _ _ (by omega) (by omega) (by omega), p8]
  · rw [gR_r q2.2.2, gR_r q1.2.2, p9]
theorem CSt_s (hd : k + 3 < j ∨ j + 3 < k) (q : csq τ σ k) (c : CSt σ j S) : CSt τ j S := CSt_q (fun s => q.1 _ _ (by omega) (by omega) (by omega)) (fun s => q.1 _ _ (by omega) (by omega) (by omega)) (fun s => q.1 _ _ (by omega) (by omega) (by omega)) (fun s => q.2.1 _ _ (by omega)) c
/-- as they are -/
theorem spj_p (H : SC σ k j E w) (ht : gI σ 40 8 = t) (h4 : gI σ 40 4 = n) (h5 : gI σ 40 5 = g) (p : ptP ρ σ k j S) : spj σ ρ k j (0, some (n, S), some (g, S), t) := spj_2 H ht h4 h5 p p.1.2.1 (csq_r _ _) p.1.2.2 (csq_r _ _)
theorem relH_id (h : ∀ x ∈ sH S, ¬ x = t) : relH S t = S := by
  refine st_ext rfl (fun _ => rfl) rfl ?_
  exact List.filter_eq_self.mpr fun x hx => decide_eq_true (h x hx)
theorem T264 {z : Int} (H : SC σ k j E w) (hS : CSt σ k S) (P : PX S E t) (ht : gI σ 40 8 = t) (h4 : gI σ 40 4 = n) (h5 : gI σ 40 5 = g) (hd : fD w ≤ 10) (hl : ak σ 2 (gR σ k 6)) (mb : isMb (rgV S (dR w))) (hz : z = 0 ∨ z = 1) :
    okc (MM 264 [mR (some 40), mI 1, mI z] σ) none (fun τ => spj σ τ k j (if z = 1 then (0, some (n, allV S (plcV (vt (rgV S (dR w))))), some (g, becZ S (vt (rgV S (dR w))) (vk (rgV S (dR w)))), t) else (0, some (n, becZ S (vt (rgV S (dR w))) (vk (rgV S (dR w)))), some (g, allV S (plcV (vt (rgV S (dR w))))), t))) := by
  have F := PX_F P
  have sc := sc_c H
  have sj : stC j := H.1.2.2.2
  have dd := H.1.2.1
  have hd' := dR_10 hd
  have l := pR_lt F hd'
  have hv := cAt_rg hS F.1 hd'
  have wv := okW_r P hd'
  have hX := okX_of P.1 P.2.1 P.2.2.1 P.2.2.2
  have l10 : pR S (dR w) + 10 < 100000 := by omega
  have g10 := gSt (sc_k H) (show pR S (dR w) + 10 < 1188 by omega)
  have mb' : vk (rgV S (dR w)) = 6 ∨ vk (rgV S (dR w)) = 10 := mb
  -- what becomes 0
  have bz : relH (allV S (zerV (vt (rgV S (dR w))))) (vt (rgV S (dR w))) = becZ S (vt (rgV S (dR w))) (vk (rgV S (dR w))) := by
    unfold becZ
    by_cases k10 : vk (rgV S (dR w)) = 10
    · rw [if_pos k10]
    · rw [if_neg k10]
      have k6 : vk (rgV S (dR w)) = 6 := by omega
      refine relH_id fun x hx e => ?_
      have := (x_r P.2.2.1 F.1 hd').1.1 k6
      rw [e] at hx
      exact this hx
  generalize rgV S (dR w) = v at *
  have lt : lI (iL (vt v)) = vt v := lIi (by have := wv.2.1; omega) (by have := wv.2.1; omega)
  obtain ⟨ρ, t63, p⟩ := T263 H hS P hl
  have Hρ := SC_q p.1.1 H
  have s59 : MM 264 [mR (some 40), mI 1, mI z] σ = RR (lkB tb264) (B264_59, [some (mR (some 40)), some (mI 1), some (mI z), some (mI (vt v))], [mI (1 - z), mI (vt v), mR (some k)], ρ) := by
    rcases hz with z0 | z1
    · rw [z0]
      simp only [M264, e264_0, e264_35, e264_45, Option.getD_some, Option.bind_some, Option.toList_some, Option.toList_none, List.cons_append, List.nil_append, and_self, and_true, true_and, false_and, and_false, ite_self, not_true_eq_false, not_false_eq_true, reduceIte, Nat.reduceEqDiff, ab_I, ab_L, ab_R, ao_I, ao_L, ao_R, gL_sL, gI_sI, gR_sR, gI_sL, gI_sR, gL_sI, gL_sR, gR_sI, gR_sL, oneI, sc_h H, sc_ao H, T241 H hS F hd, wp10 l10, g10, Int.toNat_natCast, rd_10 hv, lt, t63, sc_h Hρ]
      rfl
    · rw [z1]
      simp only [M264, e264_0, e264_35, e264_45, Option.getD_some, Option.bind_some, Option.toList_some, Option.toList_none, List.cons_append, List.nil_append, and_self, and_true, true_and, false_and, and_false, ite_self, not_true_eq_false, not_false_eq_true, reduceIte, Nat.reduceEqDiff, ab_I, ab_L, ab_R, ao_I, ao_L, ao_R, gL_sL, gI_sI, gR_sR, gI_sL, gI_sR, gL_sI, gL_sR, gR_sI, gR_sL, oneI, sc_h H, sc_ao H, T241 H hS F hd, wp10 l10, g10, Int.toNat_natCast, rd_10 hv, lt, t63, sc_h Hρ]
      rfl
  have r41 : rC ρ 41 = cstN 0#64 := Hρ.2.2.2.2
  obtain ⟨τ1, t30, c1, q1⟩ := T230 (t := vt v) (j := 41) (z := 1 - z) (sc_k Hρ) p.1.2.1 F.2 hX P.1.2.2.2.2.2.1 (by have := wv.2.1; omega) (kc_41 ρ) (by omega) r41 (by omega)
  have H1 := SC_q (sfq_s (j := j) q1) Hρ
  have r41' : rC τ1 41 = cstN 0#64 := H1.2.2.2.2
  obtain ⟨τ2, t30b, c2, q2⟩ := T230 (t := vt v) (j := 41) (z := z) (sc_j H1) (CSt_s dd q1 p.1.2.2) F.2 hX P.1.2.2.2.2.2.1 (by have := wv.2.1; omega) (kc_41 τ1) (by omega) r41' hz
  have sp := spj_2 H ht h4 h5 p c1 q1 c2 q2
  rw [s59]
  have aj : ao τ1 8 (some j) = True := aoS (sc_j H1)
  have s : RR (lkB tb264) (B264_59, [some (mR (some 40)), some (mI 1), some (mI z), some (mI (vt v))], [mI (1 - z), mI (vt v), mR (some k)], ρ) = some (none, τ2) := by
    simp only [e264_59, e264_66, e264_79, Option.getD_some, Option.bind_some, Option.toList_some, Option.toList_none, List.cons_append, List.nil_append, and_self, and_true, true_and, false_and, and_false, ite_self, not_true_eq_false, not_false_eq_true, reduceIte, Nat.reduceEqDiff, ab_I, ab_L, ab_R, ao_I, ao_L, ao_R, gL_sL, gI_sI, gR_sR, gI_sL, gI_sR, gL_sI, gL_sR, gR_sI, gR_sL, sc_ao Hρ, t30, sc_o H1, aj, t30b]
  refine okc_o s ?_
  rcases hz with z0 | z1
  · rw [z0] at sp
    rw [if_neg (show ¬ z = 1 by omega)]
    rw [if_pos (show (1 : Int) - 0 = 1 by decide), if_neg (show ¬ (0 : Int) = 1 by decide), bz] at sp
    exact sp
  · rw [z1] at sp
    rw [if_pos z1]
    rw [if_neg (show ¬ (1 : Int) - 1 = 1 by decide), if_pos rfl, bz] at sp
    exact sp
theorem T265 {z : Int} (H : SC σ k j E w) (hS : CSt σ k S) (P : PX S E t) (ht : gI σ 40 8 = t) (h4 : gI σ 40 4 = n) (h5 : gI σ 40 5 = g) (hd : fD w ≤ 10) (hs : fS w ≤ 10) (hl : ak σ 2 (gR σ k 6)) (hz : z = 0 ∨ z = 1) (hc : isOrd c) :
    okc (MM 265 [mR (some 40), mI c, mI z] σ) none (fun τ => spj σ τ k j (rchJ S (if z = 1 then rgV S (dR w) else rgV S (sRr w)) (if z = 1 then c else turC c) g n t)) := by
  have F := PX_F P
  have sc := sc_c H
  have sj : stC j := H.1.2.2.2
  have dd := H.1.2.1
  obtain ⟨r, hr⟩ : ∃ r, r = (if z = 1 then dR w else sRr w) := ⟨_, rfl⟩
  have r10 : r ≤ 10 := by
    rw [hr]
    split
    · exact dR_10 hd
    · exact sR_10 hs
  have ev : (if z = 1 then rgV S (dR w) else rgV S (sRr w)) = rgV S r := by
    rw [hr]
    split <;> rfl
  have l := pR_lt F r10
  have hv := cAt_rg hS F.1 r10
  have wv := okW_r P r10
  have hX := okX_of P.1 P.2.1 P.2.2.1 P.2.2.2
  have l10 : pR S r + 10 < 100000 := by omega
  have g10 := gSt (sc_k H) (show pR S r + 10 < 1188 by omega)
  have l7 : pR S r + 7 < 100000 := by omega
  have g7 := gSt (sc_k H) (show pR S r + 7 < 1188 by omega)
  rw [ev]
  generalize rgV S r = v at *
  have lt : lI (iL (vt v)) = vt v := lIi (by have := wv.2.1; omega) (by have := wv.2.1; omega)
  obtain ⟨ρ, t63, p⟩ := T263 H hS P hl
  have Hρ := SC_q p.1.1 H
  have aj : ao ρ 8 (some j) = True := aoS (sc_j Hρ)
  have e1 : iL (vo v) + BitVec.ofNat 64 1 = iL (vo v + 1) := iLa (vo v) 1
  -- up to the place
  have s15 : MM 265 [mR (some 40), mI c, mI z] σ = RR (lkB tb265) (B265_15, [some (mR (some 40)), some (mI c), some (mI z), none, none, none, none, none, none, none, none, none], [mI ((pR S r : Nat) : Int)], σ) := by
    rcases hz with z0 | z1
    · rw [hr, z0, if_neg (by decide)]
      simp only [M265, e265_0, Option.getD_some, Option.bind_some, Option.toList_some, Option.toList_none, List.cons_append, List.nil_append, and_self, and_true, true_and, false_and, and_false, ite_self, not_true_eq_false, not_false_eq_true, reduceIte, Nat.reduceEqDiff, ab_I, ab_L, ab_R, ao_I, ao_L, ao_R, gL_sL, gI_sI, gR_sR, gI_sL, gI_sR, gL_sI, gL_sR, gR_sI, gR_sL, T242 H hS F hs]
    · rw [hr, z1, if_pos rfl]
      simp only [M265, e265_0, e265_8, Option.getD_some, Option.bind_some, Option.toList_some, Option.toList_none, List.cons_append, List.nil_append, and_self, and_true, true_and, false_and, and_false, ite_self, not_true_eq_false, not_false_eq_true, reduceIte, Nat.reduceEqDiff, ab_I, ab_L, ab_R, ao_I, ao_L, ao_R, gL_sL, gI_sI, gR_sR, gI_sL, gI_sR, gL_sI, gL_sR, gR_sI, gR_sL, oneI, T241 H hS F hd]
  rw [s15]
  have wo := wv.2.2.2.1
  -- the two kinds of outcome
  have onH : ∀ o : Int, (o = vo v ∨ o = vo v + 1) → ∃ τ, MM 231 [mR (some k), mI (vt v), mL (iL o)] ρ = some (none, τ) ∧ spj σ τ k j (0, some (n, allV S (rchV (vt v) o)), some (g, S), t) := fun o ho => by
    obtain ⟨τ, t31, c1, q1⟩ := T231 (t := vt v) (o := o) (sc_k Hρ) p.1.2.1 F.2 hX (by have := wv.2.1; omega) (by omega)
    exact ⟨τ, t31, spj_2 H ht h4 h5 p c1 (csq_c q1) (CSt_s dd (csq_c q1) p.1.2.2) (csq_r _ _)⟩
  have onO : ∀ o : Int, (o = vo v ∨ o = vo v + 1) → ∃ τ, MM 231 [mR (some j), mI (vt v), mL (iL o)] ρ = some (none, τ) ∧ spj σ τ k j (0, some (n, S), some (g, allV S (rchV (vt v) o)), t) := fun o ho => by
    obtain ⟨τ, t31, c1, q1⟩ := T231 (t := vt v) (o := o) (sc_j Hρ) p.1.2.2 F.2 hX (by have := wv.2.1; omega) (by omega)
    exact ⟨τ, t31, spj_2 H ht h4 h5 p p.1.2.1 (csq_r _ _) c1 (csq_c q1)⟩
  unfold rchJ
  rcases hz with z0 | z1
  · rw [if_neg (show ¬ z = 1 by omega), z0]
    rcases hc with c0 | c0 | c0 | c0
    · have e : turC c = 160 := by rw [c0]; rfl
      rw [e, c0]
      obtain ⟨τ, t31, sp⟩ := onO (vo v + 1) (Or.inr rfl)
      refine okc_o (τ := τ) ?_ sp
      simp only [e265_15, e265_57, e265_62, e265_77, e265_82, e265_88, e265_99, e265_117, e265_131, e265_151, e265_154, Option.getD_some, Option.bind_some, Option.toList_some, Option.toList_none, List.cons_append, List.nil_append, and_self, and_true, true_and, false_and, and_false, ite_self, not_true_eq_false, not_false_eq_true, reduceIte, Nat.reduceEqDiff, ab_I, ab_L, ab_R, ao_I, ao_L, ao_R, gL_sL, gI_sI, gR_sR, gI_sL, gI_sR, gL_sI, gL_sR, gR_sI, gR_sL, sc_h H, sc_ao H, wp10 l10, wp7 l7, g10, g7, Int.toNat_natCast, rd_10 hv, rd_7 hv, lt, Int.reduceEq, t63, sc_h Hρ, sc_o Hρ, sc_ao Hρ, aj, e1, t31]
    · have e : turC c = 176 := by rw [c0]; rfl
      rw [e, c0]
      obtain ⟨τ, t31, sp⟩ := onO (vo v) (Or.inl rfl)
      refine okc_o (τ := τ) ?_ sp
      simp only [e265_15, e265_57, e265_62, e265_77, e265_82, e265_88, e265_99, e265_117, e265_131, e265_151, e265_154, Option.getD_some, Option.bind_some, Option.toList_some, Option.toList_none, List.cons_append, List.nil_append, and_self, and_true, true_and, false_and, and_false, ite_self, not_true_eq_false, not_false_eq_true, reduceIte, Nat.reduceEqDiff, ab_I, ab_L, ab_R, ao_I, ao_L, ao_R, gL_sL, gI_sI, gR_sR, gI_sL, gI_sR, gL_sI, gL_sR, gR_sI, gR_sL, sc_h H, sc_ao H, wp10 l10, wp7 l7, g10, g7, Int.toNat_natCast, rd_10 hv, rd_7 hv, lt, Int.reduceEq, t63, sc_h Hρ, sc_o Hρ, sc_ao Hρ, aj, e1, t31]
    · have e : turC c = 32 := by rw [c0]; rfl
      rw [e, c0]
      obtain ⟨τ, t31, sp⟩ := onH (vo v) (Or.inl rfl)
      refine okc_o (τ := τ) ?_ sp
      simp only [e265_15, e265_57, e265_62, e265_77, e265_82, e265_88, e265_99, e265_117, e265_131, e265_151, e265_154, Option.getD_some, Option.bind_some, Option.toList_some, Option.toList_none, List.cons_append, List.nil_append, and_self, and_true, true_and, false_and, and_false, ite_self, not_true_eq_false, not_false_eq_true, reduceIte, Nat.reduceEqDiff, ab_I, ab_L, ab_R, ao_I, ao_L, ao_R, gL_sL, gI_sI, gR_sR, gI_sL, gI_sR, gL_sI, gL_sR, gR_sI, gR_sL, sc_h H, sc_ao H, wp10 l10, wp7 l7, g10, g7, Int.toNat_natCast, rd_10 hv, rd_7 hv, lt, Int.reduceEq, t63, sc_h Hρ, sc_o Hρ, sc_ao Hρ, aj, e1, t31]
    · have e : turC c = 48 := by rw [c0]; rfl
      rw [e, c0]
      obtain ⟨τ, t31, sp⟩ := onH (vo v + 1) (Or.inr rfl)
      refine okc_o (τ := τ) ?_ sp
      simp only [e265_15, e265_57, e265_62, e265_77, e265_82, e265_88, e265_99, e265_117, e265_131, e265_151, e265_154, Option.getD_some, Option.bind_some, Option.toList_some, Option.toList_none, List.cons_append, List.nil_append, and_self, and_true, true_and, false_and, and_false, ite_self, not_true_eq_false, not_false_eq_true, reduceIte, Nat.reduceEqDiff, ab_I, ab_L, ab_R, ao_I, ao_L, ao_R, gL_sL, gI_sI, gR_sR, gI_sL, gI_sR, gL_sI, gL_sR, gR_sI, gR_sL, sc_h H, sc_ao H, wp10 l10, wp7 l7, g10, g7, Int.toNat_natCast, rd_10 hv, rd_7 hv, lt, Int.reduceEq, t63, sc_h Hρ, sc_o Hρ, sc_ao Hρ, aj, e1, t31]
  · rw [if_pos z1, z1]
    rcases hc with c0 | c0 | c0 | c0
    · rw [c0]
      obtain ⟨τ, t31, sp⟩ := onH (vo v) (Or.inl rfl)
      refine okc_o (τ := τ) ?_ sp
      simp only [e265_15, e265_57, e265_62, e265_77, e265_82, e265_88, e265_99, e265_117, e265_131, e265_151, e265_154, Option.getD_some, Option.bind_some, Option.toList_some, Option.toList_none, List.cons_append, List.nil_append, and_self, and_true, true_and, false_and, and_false, ite_self, not_true_eq_false, not_false_eq_true, reduceIte, Nat.reduceEqDiff, ab_I, ab_L, ab_R, ao_I, ao_L, ao_R, gL_sL, gI_sI, gR_sR, gI_sL, gI_sR, gL_sI, gL_sR, gR_sI, gR_sL, sc_h H, sc_ao H, wp10 l10, wp7 l7, g10, g7, Int.toNat_natCast, rd_10 hv, rd_7 hv, lt, Int.reduceEq, t63, sc_h Hρ, sc_o Hρ, sc_ao Hρ, aj, e1, t31]
    · rw [c0]
      obtain ⟨τ, t31, sp⟩ := onH (vo v + 1) (Or.inr rfl)
      refine okc_o (τ := τ) ?_ sp
      simp only [e265_15, e265_57, e265_62, e265_77, e265_82, e265_88, e265_99, e265_117, e265_131, e265_151, e265_154, Option.getD_some, Option.bind_some, Option.toList_some, Option.toList_none, List.cons_append, List.nil_append, and_self, and_true, true_and, false_and, and_false, ite_self, not_true_eq_false, not_false_eq_true, reduceIte, Nat.reduceEqDiff, ab_I, ab_L, ab_R, ao_I, ao_L, ao_R, gL_sL, gI_sI, gR_sR, gI_sL, gI_sR, gL_sI, gL_sR, gR_sI, gR_sL, sc_h H, sc_ao H, wp10 l10, wp7 l7, g10, g7, Int.toNat_natCast, rd_10 hv, rd_7 hv, lt, Int.reduceEq, t63, sc_h Hρ, sc_o Hρ, sc_ao Hρ, aj, e1, t31]
    · rw [c0]
      obtain ⟨τ, t31, sp⟩ := onO (vo v + 1) (Or.inr rfl)
      refine okc_o (τ := τ) ?_ sp
      simp only [e265_15, e265_57, e265_62, e265_77, e265_82, e265_88, e265_99, e265_117, e265_131, e265_151, e265_154, Option.getD_some, Option.bind_some, Option.toList_some, Option.toList_none, List.cons_append, List.nil_append, and_self, and_true, true_and, false_and, and_false, ite_self, not_true_eq_false, not_false_eq_true, reduceIte, Nat.reduceEqDiff, ab_I, ab_L, ab_R, ao_I, ao_L, ao_R, gL_sL, gI_sI, gR_sR, gI_sL, gI_sR, gL_sI, gL_sR, gR_sI, gR_sL, sc_h H, sc_ao H, wp10 l10, wp7 l7, g10, g7, Int.toNat_natCast, rd_10 hv, rd_7 hv, lt, Int.reduceEq, t63, sc_h Hρ, sc_o Hρ, sc_ao Hρ, aj, e1, t31]
    · rw [c0]
      obtain ⟨τ, t31, sp⟩ := onO (vo v) (Or.inl rfl)
      refine okc_o (τ := τ) ?_ sp
      simp only [e265_15, e265_57, e265_62, e265_77, e265_82, e265_88, e265_99, e265_117, e265_131, e265_151, e265_154, Option.getD_some, Option.bind_some, Option.toList_some, Option.toList_none, List.cons_append, List.nil_append, and_self, and_true, true_and, false_and, and_false, ite_self, not_true_eq_false, not_false_eq_true, reduceIte, Nat.reduceEqDiff, ab_I, ab_L, ab_R, ao_I, ao_L, ao_R, gL_sL, gI_sI, gR_sR, gI_sL, gI_sR, gL_sI, gL_sR, gR_sI, gR_sL, sc_h H, sc_ao H, wp10 l10, wp7 l7, g10, g7, Int.toNat_natCast, rd_10 hv, rd_7 hv, lt, Int.reduceEq, t63, sc_h Hρ, sc_o Hρ, sc_ao Hρ, aj, e1, t31]
/-! what is decided -/
theorem T266 : MM 266 [mI c] σ = some (some (mI (b2 (isSgn c))), σ) := by
  by_cases c1 : c = 96
  · rw [b2_yes (p := isSgn c) (Or.inl c1)]
    simp only [M266, e266_0, e266_26, Option.getD_some, Option.bind_some, Option.toList_some, Option.toList_none, List.cons_append, List.nil_append, and_self, and_true, true_and, false_and, and_false, ite_self, not_true_eq_false, not_false_eq_true, reduceIte, Nat.reduceEqDiff, ab_I, ab_L, ab_R, ao_I, ao_L, ao_R, gL_sL, gI_sI, gR_sR, gI_sL, gI_sR, gL_sI, gL_sR, gR_sI, gR_sL, c1]
  · by_cases c2 : c = 112
    · rw [b2_yes (p := isSgn c) (Or.inr (Or.inl c2))]
      simp only [M266, e266_0, e266_26, Option.getD_some, Option.bind_some, Option.toList_some, Option.toList_none, List.cons_append, List.nil_append, and_self, and_true, true_and, false_and, and_false, ite_self, not_true_eq_false, not_false_eq_true, reduceIte, Nat.reduceEqDiff, ab_I, ab_L, ab_R, ao_I, ao_L, ao_R, gL_sL, gI_sI, gR_sR, gI_sL, gI_sR, gL_sI, gL_sR, gR_sI, gR_sL, c2, Int.reduceEq]
    · by_cases c3 : c = 192
      · rw [b2_yes (p := isSgn c) (Or.inr (Or.inr (Or.inl c3)))]
        simp only [M266, e266_0, e266_26, Option.getD_some, Option.bind_some, Option.toList_some, Option.toList_none, List.cons_append, List.nil_append, and_self, and_true, true_and, false_and, and_false, ite_self, not_true_eq_false, not_false_eq_true, reduceIte, Nat.reduceEqDiff, ab_I, ab_L, ab_R, ao_I, ao_L, ao_R, gL_sL, gI_sI, gR_sR, gI_sL, gI_sR, gL_sI, gL_sR, gR_sI, gR_sL, c3, Int.reduceEq]
      · by_cases c4 : c = 208
        · rw [b2_yes (p := isSgn c) (Or.inr (Or.inr (Or.inr c4)))]
          simp only [M266, e266_0, e266_26, Option.getD_some, Option.bind_some, Option.toList_some, Option.toList_none, List.cons_append, List.nil_append, and_self, and_true, true_and, false_and, and_false, ite_self, not_true_eq_false, not_false_eq_true, reduceIte, Nat.reduceEqDiff, ab_I, ab_L, ab_R, ao_I, ao_L, ao_R, gL_sL, gI_sI, gR_sR, gI_sL, gI_sR, gL_sI, gL_sR, gR_sI, gR_sL, c4, Int.reduceEq]
        · rw [b2_no (p := isSgn c) (by omega)]
          simp only [M266, e266_0, Option.getD_some, Option.bind_some, Option.toList_some, Option.toList_none, List.cons_append, List.nil_append, and_self, and_true, true_and, false_and, and_false, ite_self, not_true_eq_false, not_false_eq_true, reduceIte, Nat.reduceEqDiff, ab_I, ab_L, ab_R, ao_I, ao_L, ao_R, gL_sL, gI_sI, gR_sR, gI_sL, gI_sR, gL_sI, gL_sR, gR_sI, gR_sL, c1, c2, c3, c4]
theorem T269 {a : B64} : MM 269 [mL a] σ = some (some (mL (a ^^^ cMin)), σ) := by
  simp only [M269, e269_0, iL_min]
theorem xor63 {m : Nat} (h : m < 2 ^ 63) : m ^^^ 2 ^ 63 = 2 ^ 63 + m := by
  apply Nat.eq_of_testBit_eq
  intro i
  rw [Nat.testBit_xor, Nat.testBit_two_pow]
  by_cases e : i = 63
  · subst e
    rw [Nat.testBit_two_pow_add_eq, decide_eq_true rfl, Nat.testBit_lt_two_pow h]
    rfl
  · rw [decide_eq_false (fun z => e z.symm), Bool.xor_false]
    by_cases l : i < 63
    · rw [Nat.testBit_two_pow_add_gt l]
    · have b64 : 2 ^ 64 ≤ 2 ^ i := Nat.pow_le_pow_right (by decide) (by omega)
      rw [Nat.testBit_lt_two_pow (Nat.lt_of_lt_of_le h (Nat.le_trans (by decide) b64)), Nat.testBit_lt_two_pow (Nat.lt_of_lt_of_le (by omega) b64)]
theorem xorM (z : B64) : (z ^^^ cMin).toNat = if z.toNat < 9223372036854775808 then z.toNat + 9223372036854775808 else z.toNat - 9223372036854775808 := by
  have e : cMin.toNat = 2 ^ 63 := by decide
  have lt := z.isLt
  rw [BitVec.toNat_xor, e]
  by_cases h : z.toNat < 9223372036854775808
  · rw [if_pos h, xor63 h]
    omega
  · rw [if_neg h]
    obtain ⟨m, hm⟩ : ∃ m, z.toNat = 2 ^ 63 + m := ⟨z.toNat - 2 ^ 63, by omega⟩
    have ml : m < 2 ^ 63 := by omega
    rw [hm, ← xor63 ml, Nat.xor_assoc, Nat.xor_self, Nat.xor_zero]
    have := xor63 ml
    omega
theorem flip_x (a b : B64) : (a ^^^ cMin < b ^^^ cMin) = (a.toInt < b.toInt) := by
  apply propext
  rw [BitVec.lt_def, xorM, xorM, BitVec.toInt_eq_toNat_cond, BitVec.toInt_eq_toNat_cond]
  have la := a.isLt
  have lb := b.isLt
  split <;> split <;> split <;> split <;> omega
theorem T271 {a b d e : B64} : MM 271 [mL a, mL b, mL d, mL e] σ = some (some (mI (if e < a then 1 else if ¬ d < b then 0 else -1)), σ) := by
  by_cases h1 : e < a
  · rw [if_pos h1]
    simp only [M271, e271_0, e271_6, Option.getD_some, Option.bind_some, Option.toList_some, Option.toList_none, List.cons_append, List.nil_append, and_self, and_true, true_and, false_and, and_false, ite_self, not_true_eq_false, not_false_eq_true, reduceIte, Nat.reduceEqDiff, ab_I, ab_L, ab_R, ao_I, ao_L, ao_R, gL_sL, gI_sI, gR_sR, gI_sL, gI_sR, gL_sI, gL_sR, gR_sI, gR_sL, T17, b2_0', eq_true h1]
  · rw [if_neg h1]
    by_cases h2 : d < b
    · rw [if_neg (not_not_intro h2)]
      simp only [M271, e271_0, e271_6, e271_19, Option.getD_some, Option.bind_some, Option.toList_some, Option.toList_none, List.cons_append, List.nil_append, and_self, and_true, true_and, false_and, and_false, ite_self, not_true_eq_false, not_false_eq_true, reduceIte, Nat.reduceEqDiff, ab_I, ab_L, ab_R, ao_I, ao_L, ao_R, gL_sL, gI_sI, gR_sR, gI_sL, gI_sR, gL_sI, gL_sR, gR_sI, gR_sL, T17, b2_0', b2_n', h1, h2]
    · rw [if_pos h2]
      simp only [M271, e271_0, e271_6, e271_19, Option.getD_some, Option.bind_some, Option.toList_some, Option.toList_none, List.cons_append, List.nil_append, and_self, and_true, true_and, false_and, and_false, ite_self, not_true_eq_false, not_false_eq_true, reduceIte, Nat.reduceEqDiff, ab_I, ab_L, ab_R, ao_I, ao_L, ao_R, gL_sL, gI_sI, gR_sR, gI_sL, gI_sR, gL_sI, gL_sR, gR_sI, gR_sL, T17, b2_0', b2_n', h1, h2]
theorem T272 {a b d e : B64} : MM 272 [mL a, mL b, mL d, mL e] σ = some (some (mI (if ¬ a < e then 1 else if b < d then 0 else -1)), σ) := by
  by_cases h1 : a < e
  · rw [if_neg (not_not_intro h1)]
    by_cases h2 : b < d
    · rw [if_pos h2]
      simp only [M272, e272_0, e272_6, e272_19, Option.getD_some, Option.bind_some, Option.toList_some, Option.toList_none, List.cons_append, List.nil_append, and_self, and_true, true_and, false_and, and_false, ite_self, not_true_eq_false, not_false_eq_true, reduceIte, Nat.reduceEqDiff, ab_I, ab_L, ab_R, ao_I, ao_L, ao_R, gL_sL, gI_sI, gR_sR, gI_sL, gI_sR, gL_sI, gL_sR, gR_sI, gR_sL, T17, b2_0', b2_n', h1, h2]
    · rw [if_neg h2]
      simp only [M272, e272_0, e272_6, e272_19, Option.getD_some, Option.bind_some, Option.toList_some, Option.toList_none, List.cons_append, List.nil_append, and_self, and_true, true_and, false_and, and_false, ite_self, not_true_eq_false, not_false_eq_true, reduceIte, Nat.reduceEqDiff, ab_I, ab_L, ab_R, ao_I, ao_L, ao_R, gL_sL, gI_sI, gR_sR, gI_sL, gI_sR, gL_sI, gL_sR, gR_sI, gR_sL, T17, b2_0', b2_n', h1, h2]
  · rw [if_pos h1]
    simp only [M272, e272_0, e272_6, Option.getD_some, Option.bind_some, Option.toList_some, Option.toList_none, List.cons_append, List.nil_append, and_self, and_true, true_and, false_and, and_false, ite_self, not_true_eq_false, not_false_eq_true, reduceIte, Nat.reduceEqDiff, ab_I, ab_L, ab_R, ao_I, ao_L, ao_R, gL_sL, gI_sI, gR_sR, gI_sL, gI_sR, gL_sI, gL_sR, gR_sI, gR_sL, T17, b2_n', h1]
theorem aoNr {k : Nat} (h : isNm σ k) : ao σ 2 (some k) = True := aoN h
theorem T270 {p q : Nat} (hp : isNm σ p) (hq : isNm σ q) : MM 270 [mR (some p), mR (some q)] σ = some (some (mI (equN (rC σ p) (rC σ q))), σ) := by
  have p0 : gL σ p 0 = jV (rC σ p) := rfl
  have p1 : gL σ p 1 = jM (rC σ p) := rfl
  have p2 : gL σ p 2 = jA (rC σ p) := rfl
  have p3 : gL σ p 3 = jB (rC σ p) := rfl
  have p4 : gL σ p 4 = jC (rC σ p) := rfl
  have p5 : gL σ p 5 = jD (rC σ p) := rfl
  have q0 : gL σ q 0 = jV (rC σ q) := rfl
  have q1 : gL σ q 1 = jM (rC σ q) := rfl
  have q2 : gL σ q 2 = jA (rC σ q) := rfl
  have q3 : gL σ q 3 = jB (rC σ q) := rfl
  have q4 : gL σ q 4 = jC (rC σ q) := rfl
  have q5 : gL σ q 5 = jD (rC σ q) := rfl
  generalize rC σ p = x at *
  generalize rC σ q = y at *
  have ap := aoN hp
  have aq := aoN hq
  unfold equN
  by_cases one : (isC x ∧ isC y) ∧ jV x = jV y
  · rw [if_pos one]
    have m1 : jM x = BitVec.ofNat 64 0 := one.1.1
    have m2 : jM y = BitVec.ofNat 64 0 := one.1.2
    have m3 := one.2
    simp only [M270, e270_0, Option.getD_some, Option.bind_some, Option.toList_some, Option.toList_none, List.cons_append, List.nil_append, and_self, and_true, true_and, false_and, and_false, ite_self, not_true_eq_false, not_false_eq_true, reduceIte, Nat.reduceEqDiff, ab_I, ab_L, ab_R, ao_I, ao_L, ao_R, gL_sL, gI_sI, gR_sR, gI_sL, gI_sR, gL_sI, gL_sR, gR_sI, gR_sL, ap, aq, p1, q1, p0, q0, m1, m2, m3]
  · rw [if_neg one]
    have s32 : MM 270 [mR (some p), mR (some q)] σ = RR (lkB tb270) (B270_32, [some (mR (some p)), some (mR (some q)), none, none], [], σ) := by
      by_cases m1 : jM x = BitVec.ofNat 64 0
      · by_cases m2 : jM y = BitVec.ofNat 64 0
        · have m3 : ¬ jV x = jV y := fun z => one ⟨⟨m1, m2⟩, z⟩
          simp only [M270, e270_0, Option.getD_some, Option.bind_some, Option.toList_some, Option.toList_none, List.cons_append, List.nil_append, and_self, and_true, true_and, false_and, and_false, ite_self, not_true_eq_false, not_false_eq_true, reduceIte, Nat.reduceEqDiff, ab_I, ab_L, ab_R, ao_I, ao_L, ao_R, gL_sL, gI_sI, gR_sR, gI_sL, gI_sR, gL_sI, gL_sR, gR_sI, gR_sL, ap, aq, p1, q1, p0, q0, eq_true m1, eq_true m2, m3]
        · simp only [M270, e270_0, Option.getD_some, Option.bind_some, Option.toList_some, Option.toList_none, List.cons_append, List.nil_append, and_self, and_true, true_and, false_and, and_false, ite_self, not_true_eq_false, not_false_eq_true, reduceIte, Nat.reduceEqDiff, ab_I, ab_L, ab_R, ao_I, ao_L, ao_R, gL_sL, gI_sI, gR_sR, gI_sL, gI_sR, gL_sI, gL_sR, gR_sI, gR_sL, ap, aq, p1, q1, eq_true m1, m2]
      · simp only [M270, e270_0, Option.getD_some, Option.bind_some, Option.toList_some, Option.toList_none, List.cons_append, List.nil_append, and_self, and_true, true_and, false_and, and_false, ite_self, not_true_eq_false, not_false_eq_true, reduceIte, Nat.reduceEqDiff, ab_I, ab_L, ab_R, ao_I, ao_L, ao_R, gL_sL, gI_sI, gR_sR, gI_sL, gI_sR, gL_sI, gL_sR, gR_sI, gR_sL, ap, aq, p1, m1]
    have t17a := T17 (x0 := jB x) (x2 := jA y) (σ := σ)
    have t17b := T17 (x0 := jB y) (x2 := jA x) (σ := σ)
    -- whether they are apart by their ranges
    have rest : ∀ v : Int, v = 0 ∨ v = 1 → RR (lkB tb270) (B270_69, [some (mR (some p)), some (mR (some q)), none, none], [mI v], σ) = some (some (mI (if v = 1 ∨ jB x < jA y ∨ jB y < jA x ∨ (jD x).toInt < (jC y).toInt ∨ (jD y).toInt < (jC x).toInt then 0 else -1)), σ) := fun v hv => by
      by_cases a1 : jB x < jA y
      · rw [if_pos (Or.inr (Or.inl a1))]
        rw [b2_yes a1] at t17a
        rcases hv with hv | hv
        · subst hv
          simp only [e270_69, e270_81, e270_122, e270_127, e270_136, Option.getD_some, Option.bind_some, Option.toList_some, Option.toList_none, List.cons_append, List.nil_append, and_self, and_true, true_and, false_and, and_false, ite_self, not_true_eq_false, not_false_eq_true, reduceIte, Nat.reduceEqDiff, ab_I, ab_L, ab_R, ao_I, ao_L, ao_R, gL_sL, gI_sI, gR_sR, gI_sL, gI_sR, gL_sI, gL_sR, gR_sI, gR_sL, ap, aq, p3, q2, t17a, oneI]
        · subst hv
          simp only [e270_69, e270_81, e270_122, e270_127, e270_136, Option.getD_some, Option.bind_some, Option.toList_some, Option.toList_none, List.cons_append, List.nil_append, and_self, and_true, true_and, false_and, and_false, ite_self, not_true_eq_false, not_false_eq_true, reduceIte, Nat.reduceEqDiff, ab_I, ab_L, ab_R, ao_I, ao_L, ao_R, gL_sL, gI_sI, gR_sR, gI_sL, gI_sR, gL_sI, gL_sR, gR_sI, gR_sL, ap, aq, p3, q2, t17a, oneI]
      · rw [b2_no a1] at t17a
        by_cases a2 : jB y < jA x
        · rw [if_pos (Or.inr (Or.inr (Or.inl a2)))]
          rw [b2_yes a2] at t17b
          rcases hv with hv | hv
          · subst hv
            simp only [e270_69, e270_81, e270_95, e270_122, e270_127, e270_136, Option.getD_some, Option.bind_some, Option.toList_some, Option.toList_none, List.cons_append, List.nil_append, and_self, and_true, true_and, false_and, and_false, ite_self, not_true_eq_false, not_false_eq_true, reduceIte, Nat.reduceEqDiff, ab_I, ab_L, ab_R, ao_I, ao_L, ao_R, gL_sL, gI_sI, gR_sR, gI_sL, gI_sR, gL_sI, gL_sR, gR_sI, gR_sL, ap, aq, p3, q2, q3, p2, t17a, t17b, oneI]
          · subst hv
            simp only [e270_69, e270_81, e270_95, e270_122, e270_127, e270_136, Option.getD_some, Option.bind_some, Option.toList_some, Option.toList_none, List.cons_append, List.nil_append, and_self, and_true, true_and, false_and, and_false, ite_self, not_true_eq_false, not_false_eq_true, reduceIte, Nat.reduceEqDiff, ab_I, ab_L, ab_R, ao_I, ao_L, ao_R, gL_sL, gI_sI, gR_sR, gI_sL, gI_sR, gL_sI, gL_sR, gR_sI, gR_sL, ap, aq, p3, q2, q3, p2, t17a, t17b, oneI]
        · rw [b2_no a2] at t17b
          by_cases a3 : (jD x).toInt < (jC y).toInt
          · rw [if_pos (Or.inr (Or.inr (Or.inr (Or.inl a3))))]
            rcases hv with hv | hv
            · subst hv
              simp only [e270_69, e270_81, e270_95, e270_122, e270_127, e270_136, Option.getD_some, Option.bind_some, Option.toList_some, Option.toList_none, List.cons_append, List.nil_append, and_self, and_true, true_and, false_and, and_false, ite_self, not_true_eq_false, not_false_eq_true, reduceIte, Nat.reduceEqDiff, ab_I, ab_L, ab_R, ao_I, ao_L, ao_R, gL_sL, gI_sI, gR_sR, gI_sL, gI_sR, gL_sI, gL_sR, gR_sI, gR_sL, ap, aq, p3, q2, q3, p2, t17a, t17b, p5, q4, eq_true a3, oneI]
            · subst hv
              simp only [e270_69, e270_81, e270_95, e270_122, e270_127, e270_136, Option.getD_some, Option.bind_some, Option.toList_some, Option.toList_none, List.cons_append, List.nil_append, and_self, and_true, true_and, false_and, and_false, ite_self, not_true_eq_false, not_false_eq_true, reduceIte, Nat.reduceEqDiff, ab_I, ab_L, ab_R, ao_I, ao_L, ao_R, gL_sL, gI_sI, gR_sR, gI_sL, gI_sR, gL_sI, gL_sR, gR_sI, gR_sL, ap, aq, p3, q2, q3, p2, t17a, t17b, p5, q4, eq_true a3, oneI]
          · by_cases a4 : (jC x).toInt ≤ (jD y).toInt
            · have a4' : ¬ (jD y).toInt < (jC x).toInt := by omega
              rcases hv with hv | hv
              · subst hv
                rw [if_neg (fun z => by
                  rcases z with z | z | z | z | z
                  · omega
                  · exact a1 z
                  · exact a2 z
                  · exact a3 z
                  · exact a4' z)]
                simp only [e270_69, e270_81, e270_95, e270_127, e270_136, Option.getD_some, Option.bind_some, Option.toList_some, Option.toList_none, List.cons_append, List.nil_append, and_self, and_true, true_and, false_and, and_false, ite_self, not_true_eq_false, not_false_eq_true, reduceIte, Nat.reduceEqDiff, ab_I, ab_L, ab_R, ao_I, ao_L, ao_R, gL_sL, gI_sI, gR_sR, gI_sL, gI_sR, gL_sI, gL_sR, gR_sI, gR_sL, ap, aq, p3, q2, q3, p2, t17a, t17b, p5, q4, a3, p4, q5, eq_true a4]
              · subst hv
                rw [if_pos (Or.inl rfl)]
                simp only [e270_69, e270_81, e270_95, e270_127, e270_136, Option.getD_some, Option.bind_some, Option.toList_some, Option.toList_none, List.cons_append, List.nil_append, and_self, and_true, true_and, false_and, and_false, ite_self, not_true_eq_false, not_false_eq_true, reduceIte, Nat.reduceEqDiff, ab_I, ab_L, ab_R, ao_I, ao_L, ao_R, gL_sL, gI_sI, gR_sR, gI_sL, gI_sR, gL_sI, gL_sR, gR_sI, gR_sL, ap, aq, p3, q2, q3, p2, t17a, t17b, p5, q4, a3, p4, q5, eq_true a4, oneI]
            · rw [if_pos (Or.inr (Or.inr (Or.inr (Or.inr (by omega)))))]
              rcases hv with hv | hv
              · subst hv
                simp only [e270_69, e270_81, e270_95, e270_122, e270_127, e270_136, Option.getD_some, Option.bind_some, Option.toList_some, Option.toList_none, List.cons_append, List.nil_append, and_self, and_true, true_and, false_and, and_false, ite_self, not_true_eq_false, not_false_eq_true, reduceIte, Nat.reduceEqDiff, ab_I, ab_L, ab_R, ao_I, ao_L, ao_R, gL_sL, gI_sI, gR_sR, gI_sL, gI_sR, gL_sI, gL_sR, gR_sI, gR_sL, ap, aq, p3, q2, q3, p2, t17a, t17b, p5, q4, a3, p4, q5, eq_false a4, oneI]
              · subst hv
                simp only [e270_69, e270_81, e270_95, e270_122, e270_127, e270_136, Option.getD_some, Option.bind_some, Option.toList_some, Option.toList_none, List.cons_append, List.nil_append, and_self, and_true, true_and, false_and, and_false, ite_self, not_true_eq_false, not_false_eq_true, reduceIte, Nat.reduceEqDiff, ab_I, ab_L, ab_R, ao_I, ao_L, ao_R, gL_sL, gI_sI, gR_sR, gI_sL, gI_sR, gL_sI, gL_sR, gR_sI, gR_sL, ap, aq, p3, q2, q3, p2, t17a, t17b, p5, q4, a3, p4, q5, eq_false a4, oneI]
    rw [s32]
    by_cases b : ((jV x ^^^ jV y) &&& ~~~ (jM x)) &&& ~~~ (jM y) = 0#64
    · have r := rest 0 (Or.inl rfl)
      have e : apaN x y = (((0 : Int) = 1) ∨ jB x < jA y ∨ jB y < jA x ∨ (jD x).toInt < (jC y).toInt ∨ (jD y).toInt < (jC x).toInt) := by
        apply propext
        constructor
        · rintro (z | z)
          · exact absurd b z
          · exact Or.inr z
        · rintro (z | z)
          · exact absurd z (by decide)
          · exact Or.inr z
      simp only [e]
      simp only [e270_32, Option.getD_some, Option.bind_some, Option.toList_some, Option.toList_none, List.cons_append, List.nil_append, and_self, and_true, true_and, false_and, and_false, ite_self, not_true_eq_false, not_false_eq_true, reduceIte, Nat.reduceEqDiff, ab_I, ab_L, ab_R, ao_I, ao_L, ao_R, gL_sL, gI_sI, gR_sR, gI_sL, gI_sR, gL_sI, gL_sR, gR_sI, gR_sL, ap, aq, p0, p1, q0, q1, iL_m1, xor_all, eq_true b]
      exact r
    · have r := rest 1 (Or.inr rfl)
      rw [if_pos (Or.inl rfl)] at r
      rw [if_pos (show apaN x y from Or.inl b)]
      simp only [e270_32, Option.getD_some, Option.bind_some, Option.toList_some, Option.toList_none, List.cons_append, List.nil_append, and_self, and_true, true_and, false_and, and_false, ite_self, not_true_eq_false, not_false_eq_true, reduceIte, Nat.reduceEqDiff, ab_I, ab_L, ab_R, ao_I, ao_L, ao_R, gL_sL, gI_sI, gR_sR, gI_sL, gI_sR, gL_sI, gL_sR, gR_sI, gR_sL, ap, aq, p0, p1, q0, q1, iL_m1, xor_all, eq_false b]
      exact r
theorem equN_n (x y : N6) : equN x y = 1 ∨ equN x y = 0 ∨ equN x y = -1 := equN_r x y
set_option maxHeartbeats 4000000 in
theorem T268 {p q : Nat} (hc : isCmp c) (hp : isNm σ p) (hq : isNm σ q) : MM 268 [mI c, mR (some p), mR (some q)] σ = some (some (mI (decX c (rC σ p) (rC σ q))), σ) := by
  have p0 : gL σ p 0 = jV (rC σ p) := rfl
  have p1 : gL σ p 1 = jM (rC σ p) := rfl
  have p2 : gL σ p 2 = jA (rC σ p) := rfl
  have p3 : gL σ p 3 = jB (rC σ p) := rfl
  have p4 : gL σ p 4 = jC (rC σ p) := rfl
  have p5 : gL σ p 5 = jD (rC σ p) := rfl
  have q0 : gL σ q 0 = jV (rC σ q) := rfl
  have q1 : gL σ q 1 = jM (rC σ q) := rfl
  have q2 : gL σ q 2 = jA (rC σ q) := rfl
  have q3 : gL σ q 3 = jB (rC σ q) := rfl
  have q4 : gL σ q 4 = jC (rC σ q) := rfl
  have q5 : gL σ q 5 = jD (rC σ q) := rfl
  have t70 := T270 hp hq
  generalize rC σ p = x at *
  generalize rC σ q = y at *
  have ap := aoN hp
  have aq := aoN hq
  have le : ∀ a b : B64, (¬ a.toInt < b.toInt) = (b.toInt ≤ a.toInt) := fun a b => by
    apply propext
    omega
  rcases hc with rfl | rfl | rfl | rfl | rfl | rfl | rfl | rfl | rfl | rfl | rfl
  · simp only [M268, e268_0, e268_97, Option.getD_some, Option.bind_some, Option.toList_some, Option.toList_none, List.cons_append, List.nil_append, and_self, and_true, true_and, false_and, and_false, ite_self, not_true_eq_false, not_false_eq_true, reduceIte, Nat.reduceEqDiff, ab_I, ab_L, ab_R, ao_I, ao_L, ao_R, gL_sL, gI_sI, gR_sR, gI_sL, gI_sR, gL_sI, gL_sR, gR_sI, gR_sL, t70]
    rfl
  · simp only [M268, e268_0, e268_184, Option.getD_some, Option.bind_some, Option.toList_some, Option.toList_none, List.cons_append, List.nil_append, and_self, and_true, true_and, false_and, and_false, ite_self, not_true_eq_false, not_false_eq_true, reduceIte, Nat.reduceEqDiff, ab_I, ab_L, ab_R, ao_I, ao_L, ao_R, gL_sL, gI_sI, gR_sR, gI_sL, gI_sR, gL_sI, gL_sR, gR_sI, gR_sL, Int.reduceEq, ap, aq, p2, p3, q2, q3, T271]
    rfl
  · simp only [M268, e268_0, e268_204, Option.getD_some, Option.bind_some, Option.toList_some, Option.toList_none, List.cons_append, List.nil_append, and_self, and_true, true_and, false_and, and_false, ite_self, not_true_eq_false, not_false_eq_true, reduceIte, Nat.reduceEqDiff, ab_I, ab_L, ab_R, ao_I, ao_L, ao_R, gL_sL, gI_sI, gR_sR, gI_sL, gI_sR, gL_sI, gL_sR, gR_sI, gR_sL, Int.reduceEq, ap, aq, p2, p3, q2, q3, T272]
    rfl
  · show _ = some (some (mI (if ¬ jV x &&& jV y = 0#64 then 1 else if (jV x ||| jM x) &&& (jV y ||| jM y) = 0#64 then 0 else -1)), σ)
    by_cases h1 : jV x &&& jV y = 0#64
    · rw [if_neg (not_not_intro h1)]
      by_cases h2 : (jV x ||| jM x) &&& (jV y ||| jM y) = 0#64
      · rw [if_pos h2]
        simp only [M268, e268_0, Option.getD_some, Option.bind_some, Option.toList_some, Option.toList_none, List.cons_append, List.nil_append, and_self, and_true, true_and, false_and, and_false, ite_self, not_true_eq_false, not_false_eq_true, reduceIte, Nat.reduceEqDiff, ab_I, ab_L, ab_R, ao_I, ao_L, ao_R, gL_sL, gI_sI, gR_sR, gI_sL, gI_sR, gL_sI, gL_sR, gR_sI, gR_sL, Int.reduceEq, ap, aq, p0, p1, q0, q1, eq_true h1, eq_true h2]
      · rw [if_neg h2]
        simp only [M268, e268_0, Option.getD_some, Option.bind_some, Option.toList_some, Option.toList_none, List.cons_append, List.nil_append, and_self, and_true, true_and, false_and, and_false, ite_self, not_true_eq_false, not_false_eq_true, reduceIte, Nat.reduceEqDiff, ab_I, ab_L, ab_R, ao_I, ao_L, ao_R, gL_sL, gI_sI, gR_sR, gI_sL, gI_sR, gL_sI, gL_sR, gR_sI, gR_sL, Int.reduceEq, ap, aq, p0, p1, q0, q1, eq_true h1, eq_false h2]
    · rw [if_pos h1]
      simp only [M268, e268_0, Option.getD_some, Option.bind_some, Option.toList_some, Option.toList_none, List.cons_append, List.nil_append, and_self, and_true, true_and, false_and, and_false, ite_self, not_true_eq_false, not_false_eq_true, reduceIte, Nat.reduceEqDiff, ab_I, ab_L, ab_R, ao_I, ao_L, ao_R, gL_sL, gI_sI, gR_sR, gI_sL, gI_sR, gL_sI, gL_sR, gR_sI, gR_sL, Int.reduceEq, ap, aq, p0, p1, q0, q1, eq_false h1]
  · show _ = some (some (mI (if equN x y < 0 then equN x y else 1 - equN x y)), σ)
    rcases equN_r x y with e | e | e
    · rw [e] at t70 ⊢
      simp only [M268, e268_0, e268_103, Option.getD_some, Option.bind_some, Option.toList_some, Option.toList_none, List.cons_append, List.nil_append, and_self, and_true, true_and, false_and, and_false, ite_self, not_true_eq_false, not_false_eq_true, reduceIte, Nat.reduceEqDiff, ab_I, ab_L, ab_R, ao_I, ao_L, ao_R, gL_sL, gI_sI, gR_sR, gI_sL, gI_sR, gL_sI, gL_sR, gR_sI, gR_sL, Int.reduceEq, t70]
      rfl
    · rw [e] at t70 ⊢
      simp only [M268, e268_0, e268_103, Option.getD_some, Option.bind_some, Option.toList_some, Option.toList_none, List.cons_append, List.nil_append, and_self, and_true, true_and, false_and, and_false, ite_self, not_true_eq_false, not_false_eq_true, reduceIte, Nat.reduceEqDiff, ab_I, ab_L, ab_R, ao_I, ao_L, ao_R, gL_sL, gI_sI, gR_sR, gI_sL, gI_sR, gL_sI, gL_sR, gR_sI, gR_sL, Int.reduceEq, t70]
      rfl
    · rw [e] at t70 ⊢
      simp only [M268, e268_0, e268_103, Option.getD_some, Option.bind_some, Option.toList_some, Option.toList_none, List.cons_append, List.nil_append, and_self, and_true, true_and, false_and, and_false, ite_self, not_true_eq_false, not_false_eq_true, reduceIte, Nat.reduceEqDiff, ab_I, ab_L, ab_R, ao_I, ao_L, ao_R, gL_sL, gI_sI, gR_sR, gI_sL, gI_sR, gL_sI, gL_sR, gR_sI, gR_sL, Int.reduceEq, t70]
      rfl
  · simp only [M268, e268_0, e268_252, e268_259, e268_266, e268_273, e268_276, Option.getD_some, Option.bind_some, Option.toList_some, Option.toList_none, List.cons_append, List.nil_append, and_self, and_true, true_and, false_and, and_false, ite_self, not_true_eq_false, not_false_eq_true, reduceIte, Nat.reduceEqDiff, ab_I, ab_L, ab_R, ao_I, ao_L, ao_R, gL_sL, gI_sI, gR_sR, gI_sL, gI_sR, gL_sI, gL_sR, gR_sI, gR_sL, Int.reduceEq, ap, aq, p4, p5, q4, q5, T269, T271, flip_x, le]
    rfl
  · simp only [M268, e268_0, e268_284, e268_291, e268_298, e268_305, e268_308, Option.getD_some, Option.bind_some, Option.toList_some, Option.toList_none, List.cons_append, List.nil_append, and_self, and_true, true_and, false_and, and_false, ite_self, not_true_eq_false, not_false_eq_true, reduceIte, Nat.reduceEqDiff, ab_I, ab_L, ab_R, ao_I, ao_L, ao_R, gL_sL, gI_sI, gR_sR, gI_sL, gI_sR, gL_sI, gL_sR, gR_sI, gR_sL, Int.reduceEq, ap, aq, p4, p5, q4, q5, T269, T272, flip_x, le]
    rfl
  · simp only [M268, e268_0, e268_224, Option.getD_some, Option.bind_some, Option.toList_some, Option.toList_none, List.cons_append, List.nil_append, and_self, and_true, true_and, false_and, and_false, ite_self, not_true_eq_false, not_false_eq_true, reduceIte, Nat.reduceEqDiff, ab_I, ab_L, ab_R, ao_I, ao_L, ao_R, gL_sL, gI_sI, gR_sR, gI_sL, gI_sR, gL_sI, gL_sR, gR_sI, gR_sL, Int.reduceEq, ap, aq, p2, p3, q2, q3, T271]
    rfl
  · simp only [M268, e268_0, e268_244, Option.getD_some, Option.bind_some, Option.toList_some, Option.toList_none, List.cons_append, List.nil_append, and_self, and_true, true_and, false_and, and_false, ite_self, not_true_eq_false, not_false_eq_true, reduceIte, Nat.reduceEqDiff, ab_I, ab_L, ab_R, ao_I, ao_L, ao_R, gL_sL, gI_sI, gR_sR, gI_sL, gI_sR, gL_sI, gL_sR, gR_sI, gR_sL, Int.reduceEq, ap, aq, p2, p3, q2, q3, T272]
    rfl
  · simp only [M268, e268_0, e268_316, e268_323, e268_330, e268_337, e268_340, Option.getD_some, Option.bind_some, Option.toList_some, Option.toList_none, List.cons_append, List.nil_append, and_self, and_true, true_and, false_and, and_false, ite_self, not_true_eq_false, not_false_eq_true, reduceIte, Nat.reduceEqDiff, ab_I, ab_L, ab_R, ao_I, ao_L, ao_R, gL_sL, gI_sI, gR_sR, gI_sL, gI_sR, gL_sI, gL_sR, gR_sI, gR_sL, Int.reduceEq, ap, aq, p4, p5, q4, q5, T269, T271, flip_x, le]
    rfl
  · simp only [M268, e268_0, e268_348, e268_355, e268_362, e268_369, e268_372, Option.getD_some, Option.bind_some, Option.toList_some, Option.toList_none, List.cons_append, List.nil_append, and_self, and_true, true_and, false_and, and_false, ite_self, not_true_eq_false, not_false_eq_true, reduceIte, Nat.reduceEqDiff, ab_I, ab_L, ab_R, ao_I, ao_L, ao_R, gL_sL, gI_sI, gR_sR, gI_sL, gI_sR, gL_sI, gL_sR, gR_sI, gR_sL, Int.reduceEq, ap, aq, p4, p5, q4, q5, T269, T272, flip_x, le]
    rfl
theorem T273 (g7 : gI σ 40 7 = fOp w) (hc : isCmp (fC w)) (h6 : fL w = 6) (ex : rC σ 45 = cutT x) (ey : rC σ 46 = cutT y) : MM 273 [mR (some 40)] σ = some (some (mI (if isC (cutT x) ∧ isC (cutT y) then (if cmpB (fC w) false (jV (cutT x)) (jV (cutT y)) = true then 1 else 0) else -1)), σ) := by
  have f1 := (fld_rng w).1
  have m1 : gL σ 45 1 = jM (cutT x) := by rw [← ex]; rfl
  have m2 : gL σ 46 1 = jM (cutT y) := by rw [← ey]; rfl
  have v1 : gL σ 45 0 = jV (cutT x) := by rw [← ex]; rfl
  have v2 : gL σ 46 0 = jV (cutT y) := by rw [← ey]; rfl
  have t69a := T69 (σ := σ) (k := 45) (kc_45 σ)
  have t69b := T69 (σ := σ) (k := 46) (kc_46 σ)
  rw [m1] at t69a
  rw [m2] at t69b
  have t26 := T26 (op := fOp w) (a := jV (cutT x)) (b := jV (cutT y)) (σ := σ) f1.1 f1.2 hc
  have e5 : decide (fOp w % 8 = 5) = false := decide_eq_false (by have h6 : fOp w % 8 = 6 := h6; omega)
  have cw : cmpW (fOp w / 16 * 16) false (jV (cutT x)) (jV (cutT y)) = cmpB (fC w) false (jV (cutT x)) (jV (cutT y)) := by
    unfold cmpW
    rw [if_neg (by decide), cut_m, cut_m]
  rw [e5, cw] at t26
  by_cases c1 : jM (cutT x) = 0#64
  · rw [b2_yes c1] at t69a
    by_cases c2 : jM (cutT y) = 0#64
    · rw [b2_yes c2] at t69b
      rw [if_pos ⟨c1, c2⟩]
      by_cases b : cmpB (fC w) false (jV (cutT x)) (jV (cutT y)) = true
      · rw [if_pos b] at t26 ⊢
        simp only [M273, e273_0, e273_7, e273_17, e273_43, Option.getD_some, Option.bind_some, Option.toList_some, Option.toList_none, List.cons_append, List.nil_append, and_self, and_true, true_and, false_and, and_false, ite_self, not_true_eq_false, not_false_eq_true, reduceIte, Nat.reduceEqDiff, ab_I, ab_L, ab_R, ao_I, ao_L, ao_R, gL_sL, gI_sI, gR_sR, gI_sL, gI_sR, gL_sI, gL_sR, gR_sI, gR_sL, t69a, t69b, oneI, g7, v1, v2, t26]
      · rw [if_neg b] at t26 ⊢
        simp only [M273, e273_0, e273_7, e273_17, e273_43, Option.getD_some, Option.bind_some, Option.toList_some, Option.toList_none, List.cons_append, List.nil_append, and_self, and_true, true_and, false_and, and_false, ite_self, not_true_eq_false, not_false_eq_true, reduceIte, Nat.reduceEqDiff, ab_I, ab_L, ab_R, ao_I, ao_L, ao_R, gL_sL, gI_sI, gR_sR, gI_sL, gI_sR, gL_sI, gL_sR, gR_sI, gR_sL, t69a, t69b, oneI, g7, v1, v2, t26]
    · rw [b2_no c2] at t69b
      rw [if_neg (fun z => c2 z.2)]
      simp only [M273, e273_0, e273_7, e273_17, Option.getD_some, Option.bind_some, Option.toList_some, Option.toList_none, List.cons_append, List.nil_append, and_self, and_true, true_and, false_and, and_false, ite_self, not_true_eq_false, not_false_eq_true, reduceIte, Nat.reduceEqDiff, ab_I, ab_L, ab_R, ao_I, ao_L, ao_R, gL_sL, gI_sI, gR_sR, gI_sL, gI_sR, gL_sI, gL_sR, gR_sI, gR_sL, t69a, t69b, oneI]
  · rw [b2_no c1] at t69a
    rw [if_neg (fun z => c1 z.1)]
    simp only [M273, e273_0, e273_7, Option.getD_some, Option.bind_some, Option.toList_some, Option.toList_none, List.cons_append, List.nil_append, and_self, and_true, true_and, false_and, and_false, ite_self, not_true_eq_false, not_false_eq_true, reduceIte, Nat.reduceEqDiff, ab_I, ab_L, ab_R, ao_I, ao_L, ao_R, gL_sL, gI_sI, gR_sR, gI_sL, gI_sR, gL_sI, gL_sR, gR_sI, gR_sL, t69a]
end CJMP
