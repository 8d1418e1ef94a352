/-! ===== the class's states: COVERS ===== -/
def PRc (σ : MS) (P : PR) : Prop := gI σ 70 0 = (P.length : Int) ∧ ∀ j, j < P.length → gI σ 70 (2 * j + 1) = (P.getD j (0, 0)).1 ∧ gI σ 70 (2 * j + 2) = (P.getD j (0, 0)).2
def vc (τ σ : MS) : Prop := (∀ k s, ¬ k = 70 → gI τ k s = gI σ k s) ∧ (∀ k s, gL τ k s = gL σ k s) ∧ τ.2.2 = σ.2.2
def cvc (σ : MS) (n : Nat) (o : Option Rs) (r : Option PR) : Prop := match r with
  | some P' => okc o (some (mI 1)) (fun τ => PRc τ P' ∧ vc τ σ ∧ P'.length ≤ n)
  | none => okc o (some (mI 0)) (fun τ => vc τ σ)
section CCV
variable {σ τ : MS} {k j m n pl : Nat} {A S : ST} {P : PR} {u v : VL}
theorem vc_r (σ : MS) : vc σ σ := ⟨fun _ _ _ => rfl, fun _ _ => rfl, rfl⟩
theorem vc_t {a b c : MS} (h1 : vc a b) (h2 : vc b c) : vc a c := ⟨fun k s p => (h1.1 k s p).trans (h2.1 k s p), fun k s => (h1.2.1 k s).trans (h2.2.1 k s), h1.2.2.trans h2.2.2⟩
theorem PRc_w {a b : Int} (h : PRc σ P) : PRc (sI (sI (sI σ 70 (2 * P.length + 1) a) 70 (2 * P.length + 1 + 1) b) 70 0 ((P.length + 1 : Nat) : Int)) (P ++ [(a, b)]) := by
  refine ⟨?_, fun j hj => ?_⟩
  · rw [gI_sI, if_pos ⟨rfl, rfl⟩, List.length_append]
    rfl
  · rw [List.length_append] at hj
    have hj : j < P.length + 1 := hj
    have r1 : gI (sI (sI (sI σ 70 (2 * P.length + 1) a) 70 (2 * P.length + 1 + 1) b) 70 0 ((P.length + 1 : Nat) : Int)) 70 (2 * j + 1) = if j = P.length then a else gI σ 70 (2 * j + 1) := by
      rw [gI_sI, if_neg (by omega), gI_sI, if_neg (by omega), gI_sI]
      by_cases e : j = P.length
      · rw [if_pos e, if_pos (by omega)]
      · rw [if_neg e, if_neg (by omega)]
    have r2 : gI (sI (sI (sI σ 70 (2 * P.length + 1) a) 70 (2 * P.length + 1 + 1) b) 70 0 ((P.length + 1 : Nat) : Int)) 70 (2 * j + 2) = if j = P.length then b else gI σ 70 (2 * j + 2) := by
      rw [gI_sI, if_neg (by omega), gI_sI]
      by_cases e : j = P.length
      · rw [if_pos e, if_pos (by omega)]
      · rw [if_neg e, if_neg (by omega), gI_sI, if_neg (by omega)]
    rw [r1, r2]
    by_cases e : j = P.length
    · have g : (P ++ [(a, b)]).getD j (0, 0) = (a, b) := by
        rw [e, List.getD_eq_getElem?_getD, List.getElem?_append_right (Nat.le_refl _), Nat.sub_self]
        rfl
      rw [g, if_pos e, if_pos e]
      exact ⟨rfl, rfl⟩
    · have g : (P ++ [(a, b)]).getD j (0, 0) = P.getD j (0, 0) := by
        rw [List.getD_eq_getElem?_getD, List.getElem?_append_left (by omega), ← List.getD_eq_getElem?_getD]
      rw [g, if_neg e, if_neg e]
      exact h.2 j (by omega)
theorem vc_w {a b c : Int} {n m : Nat} : vc (sI (sI (sI σ 70 n a) 70 m b) 70 0 c) σ := by
  refine ⟨fun k s p => ?_, fun _ _ => rfl, rfl⟩
  rw [gI_sI, if_neg (fun z => p z.1), gI_sI, if_neg (fun z => p z.1), gI_sI, if_neg (fun z => p z.1)]
theorem L238n {a b : Int} (h1 : gI σ 70 0 = (P.length : Int)) (hn : P.length < 172) : RR (lkB tb238) (B238_30, [some (mI a), some (mI b), some (mR (some 70)), some (mI ((2 * P.length + 1 : Nat) : Int)), some (mI ((2 * P.length + 1 : Nat) : Int))], [], σ) = some (some (mI 1), sI (sI (sI σ 70 (2 * P.length + 1) a) 70 (2 * P.length + 1 + 1) b) 70 0 ((P.length + 1 : Nat) : Int)) := by
  have g0 : gI (sI (sI σ 70 (2 * P.length + 1) a) 70 (2 * P.length + 1 + 1) b) 70 0 = (P.length : Int) := by
    rw [gI_sI, if_neg (by omega), gI_sI, if_neg (by omega)]
    exact h1
  generalize P.length = n at *
  have l1 : 2 * n + 1 < 100000 := by omega
  have l2 : n < 100000 := by omega
  have n1 : ¬ 345 ≤ ((2 * n + 1 + 1 : Nat) : Int) := by omega
  have i1 : ((2 * n + 1 : Nat) : Int) < 345 := by omega
  have i2 : ((2 * n + 1 + 1 : Nat) : Int) < 345 := by omega
  have i3 := Int.natCast_nonneg (2 * n + 1)
  have i4 := Int.natCast_nonneg (2 * n + 1 + 1)
  have i0 : (0 : Int) ≤ 0 ∧ (0 : Int) < 345 := by decide
  generalize hm : 2 * n + 1 = m at *
  have w1 : w32 ((m : Int) + 1) = ((m + 1 : Nat) : Int) := w32_s l1
  have e3 := w32_s l2
  rw [e238_30, if_pos (Int.le_refl _), w1, if_neg n1]
  simp only [Option.getD_some, g_70, ab_I, Int.toNat_natCast, Int.toNat_zero]
  rw [if_pos ⟨i3, i1⟩, if_pos ⟨i4, i2⟩, if_pos i0, if_pos i0, g0, e3]
theorem L238x {a b : Int} {p N : Nat} (i1 : 0 ≤ (p : Int)) (j1 : (p : Int) < 345) (i2 : 0 ≤ ((p + 1 : Nat) : Int)) (j2 : ((p + 1 : Nat) : Int) < 345) (nl : ¬ (N : Int) ≤ (p : Int)) (w1 : w32 ((p : Int) + 1) = ((p + 1 : Nat) : Int)) : RR (lkB tb238) (B238_30, [some (mI a), some (mI b), some (mR (some 70)), some (mI (N : Int)), some (mI (p : Int))], [], σ) = if gI σ 70 p = a then RR (lkB tb238) (B238_54, [some (mI a), some (mI b), some (mR (some 70)), some (mI (N : Int)), some (mI (p : Int))], [], σ) else if ¬ gI σ 70 (p + 1) = b then RR (lkB tb238) (B238_30, [some (mI a), some (mI b), some (mR (some 70)), some (mI (N : Int)), some (mI (w32 ((p : Int) + 2)))], [], σ) else RR (lkB tb238) (B238_54, [some (mI a), some (mI b), some (mR (some 70)), some (mI (N : Int)), some (mI (p : Int))], [], σ) := by
  rw [e238_30, if_neg nl]
  simp only [Option.getD_some, g_70, ab_I, Int.toNat_natCast, w1]
  have c1 : 0 ≤ (p : Int) ∧ (p : Int) < 345 := ⟨i1, j1⟩
  have c2 : 0 ≤ ((p + 1 : Nat) : Int) ∧ ((p + 1 : Nat) : Int) < 345 := ⟨i2, j2⟩
  rw [if_pos c1, if_pos c2]
theorem L238y {a b : Int} {p N : Nat} (i1 : 0 ≤ (p : Int)) (j1 : (p : Int) < 345) (i2 : 0 ≤ ((p + 1 : Nat) : Int)) (j2 : ((p + 1 : Nat) : Int) < 345) (w1 : w32 ((p : Int) + 1) = ((p + 1 : Nat) : Int)) : RR (lkB tb238) (B238_54, [some (mI a), some (mI b), some (mR (some 70)), some (mI (N : Int)), some (mI (p : Int))], [], σ) = if ¬ gI σ 70 p = a then some (some (mI 0), σ) else if ¬ gI σ 70 (p + 1) = b then some (some (mI 0), σ) else some (some (mI 1), σ) := by
  rw [e238_54, e238_76]
  simp only [Option.getD_some, g_70, ab_I, Int.toNat_natCast, w1]
  have c1 : 0 ≤ (p : Int) ∧ (p : Int) < 345 := ⟨i1, j1⟩
  have c2 : 0 ≤ ((p + 1 : Nat) : Int) ∧ ((p + 1 : Nat) : Int) < 345 := ⟨i2, j2⟩
  rw [if_pos c1, if_pos c2]
theorem L238z {p N : Nat} (hp : p < N) (hN : p + 1 < 345) : ((p : Int) < 345 ∧ ((p + 1 : Nat) : Int) < 345) ∧ ¬ (N : Int) ≤ (p : Int) := by omega
theorem L238c {a b u v : Int} {p N : Nat} (hp : p < N) (hN : p + 1 < 345) (g1 : gI σ 70 p = u) (g2 : gI σ 70 (p + 1) = v) : RR (lkB tb238) (B238_30, [some (mI a), some (mI b), some (mR (some 70)), some (mI (N : Int)), some (mI (p : Int))], [], σ) = if u = a ∨ v = b then some (some (mI (b2 (u = a ∧ v = b))), σ) else RR (lkB tb238) (B238_30, [some (mI a), some (mI b), some (mR (some 70)), some (mI (N : Int)), some (mI ((p + 2 : Nat) : Int))], [], σ) := by
  have z := L238z hp hN
  have w1 : w32 ((p : Int) + 1) = ((p + 1 : Nat) : Int) := w32_s (Nat.lt_trans (Nat.lt_of_succ_lt hN) (by decide))
  have e3 : w32 ((p : Int) + 2) = ((p + 2 : Nat) : Int) := w_pl (pl := p) (c := 2) (Nat.lt_of_le_of_lt (Nat.succ_le_succ (Nat.le_of_lt hN)) (by decide))
  rw [L238x (Int.natCast_nonneg p) z.1.1 (Int.natCast_nonneg (p + 1)) z.1.2 z.2 w1, L238y (Int.natCast_nonneg p) z.1.1 (Int.natCast_nonneg (p + 1)) z.1.2 w1, g1, g2, e3]
  clear hp hN z w1 e3
  by_cases q1 : u = a
  · rw [if_pos q1, if_neg (not_not_intro q1), if_pos (Or.inl q1)]
    by_cases q2 : v = b
    · rw [b2_yes ⟨q1, q2⟩, if_neg (not_not_intro q2)]
    · rw [b2_no (fun z => q2 z.2), if_pos q2]
  · rw [if_neg q1, if_pos q1]
    by_cases q2 : v = b
    · rw [if_neg (not_not_intro q2), if_pos (Or.inr q2), b2_no (fun z => q1 z.1)]
    · rw [if_pos q2, if_neg (fun z => z.elim q1 q2)]
theorem L238s {a b : Int} {n : Nat} (a0 : ¬ a = 0) (b0 : ¬ b = 0) (h1 : gI σ 70 0 = (n : Int)) (hn : n < 172) : MM 238 [mI a, mI b, mR (some 70)] σ = RR (lkB tb238) (B238_30, [some (mI a), some (mI b), some (mR (some 70)), some (mI ((2 * n + 1 : Nat) : Int)), some (mI 1)], [], σ) := by
  have i0 : (0 : Int) < 345 := by decide
  have e2 : 1 + 2 * (n : Int) = ((2 * n + 1 : Nat) : Int) := by omega
  have b1 : -2147483648 ≤ 2 * (n : Int) ∧ 2 * (n : Int) < 2147483648 := by omega
  have b2' : -2147483648 ≤ ((2 * n + 1 : Nat) : Int) ∧ ((2 * n + 1 : Nat) : Int) < 2147483648 := by omega
  simp only [M238, e238_0, Option.getD_some, Option.bind_some, Option.toList_some, Option.toList_none, List.cons_append, List.nil_append, and_self, and_true, true_and, false_and, and_false, ite_self, not_true_eq_false, not_false_eq_true, reduceIte, Nat.reduceEqDiff, ab_I, ab_L, ab_R, ao_I, ao_L, ao_R, gL_sL, gI_sI, gR_sR, gI_sL, gI_sR, gL_sI, gL_sR, gR_sI, gR_sL, a0, b0, g_70, Int.le_refl, i0, Int.toNat_zero, h1, w32_i b1.1 b1.2, w32_i b2'.1 b2'.2, e2]
theorem T238 {a b : Int} (h : PRc σ P) (hn : P.length < 172) : cvc σ (P.length + 1) (MM 238 [mI a, mI b, mR (some 70)] σ) (answ P a b) := by
  have h1 := h.1
  have h2 := h.2
  unfold answ
  by_cases c : a = 0 ∨ b = 0
  · rw [if_pos c]
    have s8 : MM 238 [mI a, mI b, mR (some 70)] σ = RR (lkB tb238) (B238_8, [some (mI a), some (mI b), some (mR (some 70)), none, none], [], σ) := by
      by_cases a0 : a = 0
      · simp only [M238, e238_0, Option.getD_some, Option.bind_some, Option.toList_some, Option.toList_none, List.cons_append, List.nil_append, and_self, and_true, true_and, false_and, and_false, ite_self, not_true_eq_false, not_false_eq_true, reduceIte, Nat.reduceEqDiff, ab_I, ab_L, ab_R, ao_I, ao_L, ao_R, gL_sL, gI_sI, gR_sR, gI_sL, gI_sR, gL_sI, gL_sR, gR_sI, gR_sL, eq_true a0]
      · have b0 : b = 0 := c.resolve_left a0
        simp only [M238, e238_0, Option.getD_some, Option.bind_some, Option.toList_some, Option.toList_none, List.cons_append, List.nil_append, and_self, and_true, true_and, false_and, and_false, ite_self, not_true_eq_false, not_false_eq_true, reduceIte, Nat.reduceEqDiff, ab_I, ab_L, ab_R, ao_I, ao_L, ao_R, gL_sL, gI_sI, gR_sR, gI_sL, gI_sR, gL_sI, gL_sR, gR_sI, gR_sL, a0, eq_true b0]
    rw [s8, e238_8]
    by_cases e : a = b
    · rw [if_pos e, if_neg (not_not_intro e)]
      show okc _ _ (fun τ => PRc τ P ∧ vc τ σ ∧ P.length ≤ P.length + 1)
      exact okc_s ⟨h, vc_r _, Nat.le_succ _⟩
    · rw [if_neg e, if_pos e]
      show okc _ _ (fun τ => vc τ σ)
      exact okc_s (vc_r _)
  · rw [if_neg c]
    have a0 : ¬ a = 0 := fun q => c (Or.inl q)
    have b0 : ¬ b = 0 := fun q => c (Or.inr q)
    have key : ∀ (L B : PR), P = B ++ L → cvc σ (P.length + 1) (RR (lkB tb238) (B238_30, [some (mI a), some (mI b), some (mR (some 70)), some (mI ((2 * P.length + 1 : Nat) : Int)), some (mI ((2 * B.length + 1 : Nat) : Int))], [], σ)) (match L.find? (fun q => decide (q.1 = a ∨ q.2 = b)) with
        | some q => if q.1 = a ∧ q.2 = b then some P else none
        | none => some (P ++ [(a, b)])) := by
      intro L
      induction L with
      | nil =>
        intro B e
        rw [List.append_nil] at e
        rw [← e]
        show okc _ _ (fun τ => PRc τ (P ++ [(a, b)]) ∧ vc τ σ ∧ (P ++ [(a, b)]).length ≤ P.length + 1)
        refine okc_o (L238n h1 hn) ⟨PRc_w h, vc_w, ?_⟩
        rw [List.length_append]
        exact Nat.le_refl _
      | cons q L ih =>
        intro B e
        have lA : B.length < P.length := by
          rw [e, List.length_append, List.length_cons]
          omega
        have gq : P.getD B.length (0, 0) = q := by
          rw [e, List.getD_eq_getElem?_getD, List.getElem?_append_right (Nat.le_refl _), Nat.sub_self]
          rfl
        have gg := h2 B.length lA
        rw [gq] at gg
        obtain ⟨g1, g2⟩ := gg
        have g2' : gI σ 70 (2 * B.length + 1 + 1) = q.2 := g2
        have lp : 2 * B.length + 1 < 2 * P.length + 1 := by clear g1 g2 g2'; omega
        have lq : 2 * B.length + 1 + 1 < 345 := by clear g1 g2 g2'; omega
        rw [L238c lp lq g1 g2']
        by_cases q12 : q.1 = a ∨ q.2 = b
        · have fe : (q :: L).find? (fun q => decide (q.1 = a ∨ q.2 = b)) = some q := List.find?_cons_of_pos (decide_eq_true q12)
          rw [fe, if_pos q12]
          show cvc σ (P.length + 1) _ (if q.1 = a ∧ q.2 = b then some P else none)
          by_cases both : q.1 = a ∧ q.2 = b
          · rw [if_pos both, b2_yes both]
            show okc _ _ (fun τ => PRc τ P ∧ vc τ σ ∧ P.length ≤ P.length + 1)
            exact okc_s ⟨h, vc_r _, Nat.le_succ _⟩
          · rw [if_neg both, b2_no both]
            show okc _ _ (fun τ => vc τ σ)
            exact okc_s (vc_r _)
        · have fe : (q :: L).find? (fun q => decide (q.1 = a ∨ q.2 = b)) = L.find? (fun q => decide (q.1 = a ∨ q.2 = b)) := List.find?_cons_of_neg (by simpa using q12)
          rw [fe, if_neg q12]
          have ih := ih (B ++ [q]) (by rw [e, List.append_assoc]; rfl)
          rw [List.length_append] at ih
          exact ih
    have := key P [] rfl
    rw [L238s a0 b0 h1 hn]
    exact this
theorem T237 (h : isSt σ k) (h' : isSt σ j) (hp : pl + 11 ≤ 1188) (hu : cAt σ k pl u) (hv : cAt σ j pl v) (ku : ¬ vk u = 0) (kv : ¬ vk v = 0) : MM 237 [mR (some k), mI (pl : Int), mR (some (j + 1 + 0))] σ = some (some (mI (b2 (covN (vn u) (vn v)))), σ) := by
  have x1 := rd_1n hu ku
  have x2 := rd_2 hu
  have x3 := rd_3 hu
  have x4 := rd_4 hu
  have x5 := rd_5 hu
  have x6 := rd_6 hu
  have y1 := rd_1n hv kv
  have y2 := rd_2 hv
  have y3 := rd_3 hv
  have y4 := rd_4 hv
  have y5 := rd_5 hv
  have y6 := rd_6 hv
  have w1 : w32 ((pl : Int) + 1) = ((pl + 1 : Nat) : Int) := w_pl (c := 1) (by omega)
  have w2 : w32 ((pl : Int) + 2) = ((pl + 2 : Nat) : Int) := w_pl (c := 2) (by omega)
  have w3 : w32 ((pl : Int) + 3) = ((pl + 3 : Nat) : Int) := w_pl (c := 3) (by omega)
  have w4 : w32 ((pl : Int) + 4) = ((pl + 4 : Nat) : Int) := w_pl (c := 4) (by omega)
  have w5 : w32 ((pl : Int) + 5) = ((pl + 5 : Nat) : Int) := w_pl (c := 5) (by omega)
  have w6 : w32 ((pl : Int) + 6) = ((pl + 6 : Nat) : Int) := w_pl (c := 6) (by omega)
  have a1 := gSt h (show pl + 1 < 1188 by omega)
  have a2 := gSt h (show pl + 2 < 1188 by omega)
  have a3 := gSt h (show pl + 3 < 1188 by omega)
  have a4 := gSt h (show pl + 4 < 1188 by omega)
  have a5 := gSt h (show pl + 5 < 1188 by omega)
  have a6 := gSt h (show pl + 6 < 1188 by omega)
  have b1 := gSt h' (show pl + 1 < 1188 by omega)
  have b2' := gSt h' (show pl + 2 < 1188 by omega)
  have b3 := gSt h' (show pl + 3 < 1188 by omega)
  have b4 := gSt h' (show pl + 4 < 1188 by omega)
  have b5 := gSt h' (show pl + 5 < 1188 by omega)
  have b6 := gSt h' (show pl + 6 < 1188 by omega)
  generalize vn u = a at *
  generalize vn v = b at *
  by_cases c1 : jM b &&& ~~~ jM a = 0#64
  · by_cases c2 : (jV a ^^^ jV b) &&& ~~~ jM a = 0#64
    · by_cases c3 : jA b < jA a
      · rw [b2_no (p := covN a b) (fun z => z.1.1 c3)]
        simp only [M237, e237_0, e237_68, e237_130, Option.getD_some, Option.bind_some, Option.toList_some, Option.toList_none, List.cons_append, List.nil_append, and_self, and_true, true_and, false_and, and_false, ite_self, not_true_eq_false, not_false_eq_true, reduceIte, Nat.reduceEqDiff, ab_I, ab_L, ab_R, ao_I, ao_L, ao_R, gL_sL, gI_sI, gR_sR, gI_sL, gI_sR, gL_sI, gL_sR, gR_sI, gR_sL, aoS h, w1, w2, w3, a1, a2, a3, b1, b2', b3, Int.toNat_natCast, x1, x2, x3, y1, y2, y3, iL_m1, xor_all, eq_true c1, eq_true c2, T17, b2_n', eq_true c3]
      · by_cases c4 : jB a < jB b
        · rw [b2_no (p := covN a b) (fun z => z.1.2.1 c4)]
          simp only [M237, e237_0, e237_68, e237_87, e237_130, Option.getD_some, Option.bind_some, Option.toList_some, Option.toList_none, List.cons_append, List.nil_append, and_self, and_true, true_and, false_and, and_false, ite_self, not_true_eq_false, not_false_eq_true, reduceIte, Nat.reduceEqDiff, ab_I, ab_L, ab_R, ao_I, ao_L, ao_R, gL_sL, gI_sI, gR_sR, gI_sL, gI_sR, gL_sI, gL_sR, gR_sI, gR_sL, aoS h, w1, w2, w3, w4, a1, a2, a3, a4, b1, b2', b3, b4, Int.toNat_natCast, x1, x2, x3, x4, y1, y2, y3, y4, iL_m1, xor_all, eq_true c1, eq_true c2, T17, b2_n', c3, eq_true c4]
        · by_cases c5 : (jC b).toInt < (jC a).toInt
          · rw [b2_no (p := covN a b) (fun z => absurd z.1.2.2.1 (by omega))]
            simp only [M237, e237_0, e237_68, e237_87, e237_130, Option.getD_some, Option.bind_some, Option.toList_some, Option.toList_none, List.cons_append, List.nil_append, and_self, and_true, true_and, false_and, and_false, ite_self, not_true_eq_false, not_false_eq_true, reduceIte, Nat.reduceEqDiff, ab_I, ab_L, ab_R, ao_I, ao_L, ao_R, gL_sL, gI_sI, gR_sR, gI_sL, gI_sR, gL_sI, gL_sR, gR_sI, gR_sL, aoS h, w1, w2, w3, w4, w5, a1, a2, a3, a4, a5, b1, b2', b3, b4, b5, Int.toNat_natCast, x1, x2, x3, x4, x5, y1, y2, y3, y4, y5, iL_m1, xor_all, eq_true c1, eq_true c2, T17, b2_n', c3, c4, eq_true c5]
          · by_cases c6 : (jD a).toInt < (jD b).toInt
            · rw [b2_no (p := covN a b) (fun z => absurd z.1.2.2.2 (by omega))]
              simp only [M237, e237_0, e237_68, e237_87, e237_130, Option.getD_some, Option.bind_some, Option.toList_some, Option.toList_none, List.cons_append, List.nil_append, and_self, and_true, true_and, false_and, and_false, ite_self, not_true_eq_false, not_false_eq_true, reduceIte, Nat.reduceEqDiff, ab_I, ab_L, ab_R, ao_I, ao_L, ao_R, gL_sL, gI_sI, gR_sR, gI_sL, gI_sR, gL_sI, gL_sR, gR_sI, gR_sL, aoS h, w1, w2, w3, w4, w5, w6, a1, a2, a3, a4, a5, a6, b1, b2', b3, b4, b5, b6, Int.toNat_natCast, x1, x2, x3, x4, x5, x6, y1, y2, y3, y4, y5, y6, iL_m1, xor_all, eq_true c1, eq_true c2, T17, b2_n', c3, c4, c5, eq_true c6]
            · rw [b2_yes (p := covN a b) ⟨⟨c3, c4, by omega, by omega⟩, c1, c2⟩]
              simp only [M237, e237_0, e237_68, e237_87, Option.getD_some, Option.bind_some, Option.toList_some, Option.toList_none, List.cons_append, List.nil_append, and_self, and_true, true_and, false_and, and_false, ite_self, not_true_eq_false, not_false_eq_true, reduceIte, Nat.reduceEqDiff, ab_I, ab_L, ab_R, ao_I, ao_L, ao_R, gL_sL, gI_sI, gR_sR, gI_sL, gI_sR, gL_sI, gL_sR, gR_sI, gR_sL, aoS h, w1, w2, w3, w4, w5, w6, a1, a2, a3, a4, a5, a6, b1, b2', b3, b4, b5, b6, Int.toNat_natCast, x1, x2, x3, x4, x5, x6, y1, y2, y3, y4, y5, y6, iL_m1, xor_all, eq_true c1, eq_true c2, T17, b2_n', c3, c4, c5, c6]
    · rw [b2_no (p := covN a b) (fun z => c2 z.2.2)]
      simp only [M237, e237_0, Option.getD_some, Option.bind_some, Option.toList_some, Option.toList_none, List.cons_append, List.nil_append, and_self, and_true, true_and, false_and, and_false, ite_self, not_true_eq_false, not_false_eq_true, reduceIte, Nat.reduceEqDiff, ab_I, ab_L, ab_R, ao_I, ao_L, ao_R, gL_sL, gI_sI, gR_sR, gI_sL, gI_sR, gL_sI, gL_sR, gR_sI, gR_sL, aoS h, w1, w2, a1, a2, b1, b2', Int.toNat_natCast, x1, x2, y1, y2, iL_m1, xor_all, eq_true c1, eq_false c2]
  · rw [b2_no (p := covN a b) (fun z => c1 z.2.1)]
    simp only [M237, e237_0, Option.getD_some, Option.bind_some, Option.toList_some, Option.toList_none, List.cons_append, List.nil_append, and_self, and_true, true_and, false_and, and_false, ite_self, not_true_eq_false, not_false_eq_true, reduceIte, Nat.reduceEqDiff, ab_I, ab_L, ab_R, ao_I, ao_L, ao_R, gL_sL, gI_sI, gR_sR, gI_sL, gI_sR, gL_sI, gL_sR, gR_sI, gR_sL, aoS h, w2, a2, b2', Int.toNat_natCast, x2, y2, iL_m1, xor_all, eq_false c1]
theorem bv_sub64 (x y : B64) : (x &&& ~~~ y = 0#64) ↔ x &&& y = x := by
  constructor
  · intro h
    apply BitVec.eq_of_getLsbD_eq
    intro i hi
    have := congrArg (fun z => BitVec.getLsbD z i) h
    simp only [BitVec.getLsbD_and, BitVec.getLsbD_not, BitVec.getLsbD_zero, hi, decide_true, Bool.true_and] at this
    rw [BitVec.getLsbD_and]
    cases h1 : x.getLsbD i <;> cases h2 : y.getLsbD i <;> simp_all
  · intro h
    rw [← h, BitVec.and_assoc]
    simp
theorem iLnot {a b : Int} (ha : 0 ≤ a ∧ a < 256) (hb : 0 ≤ b ∧ b < 256) : (iL a &&& ~~~ iL b = 0#64) = (a.toNat &&& b.toNat = a.toNat) := by
  have na : (iL a).toNat = a.toNat := by
    unfold iL
    rw [BitVec.toNat_ofInt]
    omega
  have nb : (iL b).toNat = b.toNat := by
    unfold iL
    rw [BitVec.toNat_ofInt]
    omega
  apply propext
  rw [bv_sub64]
  constructor
  · intro h
    have := congrArg BitVec.toNat h
    rwa [BitVec.toNat_and, na, nb] at this
  · intro h
    apply BitVec.eq_of_toNat_eq
    rw [BitVec.toNat_and, na, nb]
    exact h
abbrev subU (u v : VL) : Prop := vr u = 0 ∨ (if vk v = 0 then (vr u).toNat &&& (vr v).toNat = (vr u).toNat else vk v = 1)
theorem T236 (h : isSt σ k) (h' : isSt σ j) (hp : pl + 11 ≤ 1188) (hu : cAt σ k pl u) (hv : cAt σ j pl v) (ku : vk u = 0) (wu : okW u) (wv : okW v) : MM 236 [mR (some k), mI (pl : Int), mR (some (j + 1 + 0))] σ = some (some (mI (b2 (subU u v))), σ) := by
  have x1 : gL σ (k + 1 + 0) (pl + 1) = iL (vr u) := (rd_1 hu).trans (if_pos ku)
  have y0 := rd_0 hv
  have y1 := rd_1 hv
  have w1 : w32 ((pl : Int) + 1) = ((pl + 1 : Nat) : Int) := w_pl (c := 1) (by omega)
  have a1 := gSt h (show pl + 1 < 1188 by omega)
  have b0 := gSt h' (show pl < 1188 by omega)
  have b1 := gSt h' (show pl + 1 < 1188 by omega)
  have ru := (wu.2.2.2.2.2.2.1 ku).2
  have k1 : (iL (vk v) = BitVec.ofNat 64 1) = (vk v = 1) := iL_o (by have := wv.1; omega)
  have k0 : (iL (vk v) = BitVec.ofNat 64 0) = (vk v = 0) := iL_z (by have := wv.1; omega)
  have r0 : (iL (vr u) = BitVec.ofNat 64 0) = (vr u = 0) := iL_z (by omega)
  by_cases c0 : vr u = 0
  · rw [b2_yes (p := subU u v) (Or.inl c0)]
    simp only [M236, e236_0, Option.getD_some, Option.bind_some, Option.toList_some, Option.toList_none, List.cons_append, List.nil_append, and_self, and_true, true_and, false_and, and_false, ite_self, not_true_eq_false, not_false_eq_true, reduceIte, Nat.reduceEqDiff, ab_I, ab_L, ab_R, ao_I, ao_L, ao_R, gL_sL, gI_sI, gR_sR, gI_sL, gI_sR, gL_sI, gL_sR, gR_sI, gR_sL, aoS h, w1, a1, Int.toNat_natCast, x1, r0, eq_true c0]
  · by_cases c1 : vk v = 1
    · rw [b2_yes (p := subU u v) (Or.inr (by rw [if_neg (by omega)]; exact c1))]
      simp only [M236, e236_0, Option.getD_some, Option.bind_some, Option.toList_some, Option.toList_none, List.cons_append, List.nil_append, and_self, and_true, true_and, false_and, and_false, ite_self, not_true_eq_false, not_false_eq_true, reduceIte, Nat.reduceEqDiff, ab_I, ab_L, ab_R, ao_I, ao_L, ao_R, gL_sL, gI_sI, gR_sR, gI_sL, gI_sR, gL_sI, gL_sR, gR_sI, gR_sL, aoS h, w1, a1, b0, Int.toNat_natCast, x1, y0, r0, c0, k1, eq_true c1]
    · by_cases c2 : vk v = 0
      · have rv := (wv.2.2.2.2.2.2.1 c2).2
        have nn := iLnot (a := vr u) (b := vr v) (by omega) (by omega)
        rw [if_pos c2] at y1
        by_cases c3 : (vr u).toNat &&& (vr v).toNat = (vr u).toNat
        · rw [b2_yes (p := subU u v) (Or.inr (by rw [if_pos c2]; exact c3))]
          simp only [M236, e236_0, Option.getD_some, Option.bind_some, Option.toList_some, Option.toList_none, List.cons_append, List.nil_append, and_self, and_true, true_and, false_and, and_false, ite_self, not_true_eq_false, not_false_eq_true, reduceIte, Nat.reduceEqDiff, ab_I, ab_L, ab_R, ao_I, ao_L, ao_R, gL_sL, gI_sI, gR_sR, gI_sL, gI_sR, gL_sI, gL_sR, gR_sI, gR_sL, aoS h, w1, a1, b0, b1, Int.toNat_natCast, x1, y0, y1, r0, c0, k1, c1, k0, eq_true c2, iL_m1, xor_all, nn, eq_true c3]
        · rw [b2_no (p := subU u v) (fun z => z.elim c0 (fun y => c3 (by rw [if_pos c2] at y; exact y)))]
          simp only [M236, e236_0, e236_53, Option.getD_some, Option.bind_some, Option.toList_some, Option.toList_none, List.cons_append, List.nil_append, and_self, and_true, true_and, false_and, and_false, ite_self, not_true_eq_false, not_false_eq_true, reduceIte, Nat.reduceEqDiff, ab_I, ab_L, ab_R, ao_I, ao_L, ao_R, gL_sL, gI_sI, gR_sR, gI_sL, gI_sR, gL_sI, gL_sR, gR_sI, gR_sL, aoS h, w1, a1, b0, b1, Int.toNat_natCast, x1, y0, y1, r0, c0, k1, c1, k0, eq_true c2, iL_m1, xor_all, nn, eq_false c3]
      · rw [b2_no (p := subU u v) (fun z => z.elim c0 (fun y => c1 (by rw [if_neg c2] at y; exact y)))]
        simp only [M236, e236_0, e236_53, Option.getD_some, Option.bind_some, Option.toList_some, Option.toList_none, List.cons_append, List.nil_append, and_self, and_true, true_and, false_and, and_false, ite_self, not_true_eq_false, not_false_eq_true, reduceIte, Nat.reduceEqDiff, ab_I, ab_L, ab_R, ao_I, ao_L, ao_R, gL_sL, gI_sI, gR_sR, gI_sL, gI_sR, gL_sI, gL_sR, gR_sI, gR_sL, aoS h, w1, a1, b0, Int.toNat_natCast, x1, y0, r0, c0, k1, c1, k0, c2]
theorem cvc_1 (h : PRc σ P) {o : Option Rs} (e : o = some (some (mI 1), σ)) : cvc σ (P.length + 1) o (some P) := okc_o e ⟨h, vc_r _, Nat.le_succ _⟩
theorem cvc_0 {n : Nat} {o : Option Rs} (e : o = some (some (mI 0), σ)) : cvc σ n o none := okc_o e (vc_r _)
theorem T235 (h : isSt σ k) (h' : isSt σ j) (hp : pl + 11 ≤ 1188) (hu : cAt σ k pl u) (hv : cAt σ j pl v) (wu : okW u) (wv : okW v) (hP : PRc σ P) (hn : P.length < 172) : cvc σ (P.length + 1) (MM 235 [mR (some k), mI (pl : Int), mR (some j), mR (some 70)] σ) (covP P u v) := by
  have x0 := rd_0 hu
  have x7 := rd_7 hu
  have x8 := rd_8 hu
  have x9 := rd_9 hu wu.2.2.2.2.2
  have x10 := rd_10 hu
  have y0 := rd_0 hv
  have y7 := rd_7 hv
  have y8 := rd_8 hv
  have y9 := rd_9 hv wv.2.2.2.2.2
  have y10 := rd_10 hv
  have w7 : w32 ((pl : Int) + 7) = ((pl + 7 : Nat) : Int) := w_pl (c := 7) (by omega)
  have w8 : w32 ((pl : Int) + 8) = ((pl + 8 : Nat) : Int) := w_pl (c := 8) (by omega)
  have w9 : w32 ((pl : Int) + 9) = ((pl + 9 : Nat) : Int) := w_pl (c := 9) (by omega)
  have w10 : w32 ((pl : Int) + 10) = ((pl + 10 : Nat) : Int) := w_pl (c := 10) (by omega)
  have a0 := gSt h (show pl < 1188 by omega)
  have a7 := gSt h (show pl + 7 < 1188 by omega)
  have a8 := gSt h (show pl + 8 < 1188 by omega)
  have a9 := gSt h (show pl + 9 < 1188 by omega)
  have a10 := gSt h (show pl + 10 < 1188 by omega)
  have b0 := gSt h' (show pl < 1188 by omega)
  have b7 := gSt h' (show pl + 7 < 1188 by omega)
  have b8 := gSt h' (show pl + 8 < 1188 by omega)
  have b9 := gSt h' (show pl + 9 < 1188 by omega)
  have b10 := gSt h' (show pl + 10 < 1188 by omega)
  obtain ⟨u1, u2, u3, u4, u5, u6⟩ := wu
  obtain ⟨v1, v2, v3, v4, v5, v6⟩ := wv
  have l0 : lI (iL (vk u)) = vk u := lIi (by omega) (by omega)
  have lt : lI (iL (vt u)) = vt u := lIi (by omega) (by omega)
  have lt' : lI (iL (vt v)) = vt v := lIi (by omega) (by omega)
  have ek : (iL (vk u) = iL (vk v)) = (vk u = vk v) := iL_e (by omega) (by omega)
  have eo : (iL (vo u) = iL (vo v)) = (vo u = vo v) := iL_e (by omega) (by omega)
  have ew : (iL (vw u) = iL (vw v)) = (vw u = vw v) := iL_e (by omega) (by omega)
  unfold covP
  by_cases c0 : vk u = 0
  · rw [if_neg (not_not_intro c0)]
    have t6 := T236 h h' hp hu hv c0 ⟨u1, u2, u3, u4, u5, u6⟩ ⟨v1, v2, v3, v4, v5, v6⟩
    have e : MM 235 [mR (some k), mI (pl : Int), mR (some j), mR (some 70)] σ = some (some (mI (b2 (subU u v))), σ) := by
      simp only [M235, e235_0, e235_23, Option.getD_some, Option.bind_some, Option.toList_some, Option.toList_none, List.cons_append, List.nil_append, and_self, and_true, true_and, false_and, and_false, ite_self, not_true_eq_false, not_false_eq_true, reduceIte, Nat.reduceEqDiff, ab_I, ab_L, ab_R, ao_I, ao_L, ao_R, gL_sL, gI_sI, gR_sR, gI_sL, gI_sR, gL_sI, gL_sR, gR_sI, gR_sL, aoS h, aoS h', a0, Int.toNat_natCast, x0, l0, eq_true c0, t6, bl_b2]
    by_cases s : subU u v
    · rw [if_pos s]
      rw [b2_yes s] at e
      exact cvc_1 hP e
    · rw [if_neg s]
      rw [b2_no s] at e
      exact cvc_0 e
  · rw [if_pos c0]
    by_cases d0 : vk v = 0
    · rw [if_neg (not_not_intro d0)]
      refine cvc_0 ?_
      have ne : ¬ vk u = vk v := by omega
      simp only [M235, e235_0, Option.getD_some, Option.bind_some, Option.toList_some, Option.toList_none, List.cons_append, List.nil_append, and_self, and_true, true_and, false_and, and_false, ite_self, not_true_eq_false, not_false_eq_true, reduceIte, Nat.reduceEqDiff, ab_I, ab_L, ab_R, ao_I, ao_L, ao_R, gL_sL, gI_sI, gR_sR, gI_sL, gI_sR, gL_sI, gL_sR, gR_sI, gR_sL, aoS h, aoS h', a0, b0, Int.toNat_natCast, x0, y0, l0, c0, ek, ne]
    · rw [if_pos d0]
      unfold covV
      rw [if_neg c0]
      by_cases c1 : vk u = vk v
      · rw [if_neg (not_not_intro c1)]
        have t7 := T237 h h' hp hu hv c0 d0
        by_cases c2 : vk u = 1
        · rw [if_pos c2]
          have e : MM 235 [mR (some k), mI (pl : Int), mR (some j), mR (some 70)] σ = some (some (mI (b2 (covN (vn u) (vn v)))), σ) := by
            simp only [M235, e235_0, e235_54, Option.getD_some, Option.bind_some, Option.toList_some, Option.toList_none, List.cons_append, List.nil_append, and_self, and_true, true_and, false_and, and_false, ite_self, not_true_eq_false, not_false_eq_true, reduceIte, Nat.reduceEqDiff, ab_I, ab_L, ab_R, ao_I, ao_L, ao_R, gL_sL, gI_sI, gR_sR, gI_sL, gI_sR, gL_sI, gL_sR, gR_sI, gR_sL, aoS h, aoS h', a0, b0, Int.toNat_natCast, x0, y0, l0, c0, ek, eq_true c1, eq_true c2, t7, bl_b2]
          by_cases s : covN (vn u) (vn v)
          · rw [if_pos s]
            rw [b2_yes s] at e
            exact cvc_1 hP e
          · rw [if_neg s]
            rw [b2_no s] at e
            exact cvc_0 e
        · rw [if_neg c2]
          have x9 : gL σ (k + 1 + 0) (pl + 9) = iL (vr u) := by rw [x9, if_neg c0]
          have y9 : gL σ (j + 1 + 0) (pl + 9) = iL (vr v) := by rw [y9, if_neg d0]
          have er : ((iL (vr v)).toInt < (iL (vr u)).toInt) = ¬ vr u ≤ vr v := by
            rw [iLt (by omega) (by omega), iLt (by omega) (by omega)]
            apply propext
            omega
          by_cases c3 : vo u = vo v
          · by_cases c4 : vw u = vw v
            · by_cases c5 : vr u ≤ vr v
              · by_cases s : covN (vn u) (vn v)
                · rw [if_pos ⟨⟨c4, c3, c5⟩, s⟩]
                  have t8 := T238 (a := vt u) (b := vt v) hP hn
                  rcases hA : answ P (vt u) (vt v) with _ | P'
                  · rw [hA] at t8
                    obtain ⟨τ, e, q⟩ := t8
                    show okc _ _ (fun τ => vc τ σ)
                    simp only [M235, e235_0, e235_130, e235_157, e235_164, Option.getD_some, Option.bind_some, Option.toList_some, Option.toList_none, List.cons_append, List.nil_append, and_self, and_true, true_and, false_and, and_false, ite_self, not_true_eq_false, not_false_eq_true, reduceIte, Nat.reduceEqDiff, ab_I, ab_L, ab_R, ao_I, ao_L, ao_R, gL_sL, gI_sI, gR_sR, gI_sL, gI_sR, gL_sI, gL_sR, gR_sI, gR_sL, aoS h, aoS h', a0, b0, a7, b7, a8, b8, a9, b9, a10, b10, w7, w8, w9, w10, Int.toNat_natCast, x0, y0, x7, y7, x8, y8, x9, y9, x10, y10, l0, c0, ek, eq_true c1, c2, eo, eq_true c3, ew, eq_true c4, er, eq_true c5, t7, b2_yes s, oneI, lt, lt', e]
                    exact okc_s q
                  · rw [hA] at t8
                    obtain ⟨τ, e, q⟩ := t8
                    show okc _ _ (fun τ => PRc τ P' ∧ vc τ σ ∧ P'.length ≤ P.length + 1)
                    simp only [M235, e235_0, e235_130, e235_157, Option.getD_some, Option.bind_some, Option.toList_some, Option.toList_none, List.cons_append, List.nil_append, and_self, and_true, true_and, false_and, and_false, ite_self, not_true_eq_false, not_false_eq_true, reduceIte, Nat.reduceEqDiff, ab_I, ab_L, ab_R, ao_I, ao_L, ao_R, gL_sL, gI_sI, gR_sR, gI_sL, gI_sR, gL_sI, gL_sR, gR_sI, gR_sL, aoS h, aoS h', a0, b0, a7, b7, a8, b8, a9, b9, a10, b10, w7, w8, w9, w10, Int.toNat_natCast, x0, y0, x7, y7, x8, y8, x9, y9, x10, y10, l0, c0, ek, eq_true c1, c2, eo, eq_true c3, ew, eq_true c4, er, eq_true c5, t7, b2_yes s, oneI, lt, lt', e]
                    exact okc_s q
                · rw [if_neg (fun z => s z.2)]
                  refine cvc_0 ?_
                  simp only [M235, e235_0, e235_130, e235_164, Option.getD_some, Option.bind_some, Option.toList_some, Option.toList_none, List.cons_append, List.nil_append, and_self, and_true, true_and, false_and, and_false, ite_self, not_true_eq_false, not_false_eq_true, reduceIte, Nat.reduceEqDiff, ab_I, ab_L, ab_R, ao_I, ao_L, ao_R, gL_sL, gI_sI, gR_sR, gI_sL, gI_sR, gL_sI, gL_sR, gR_sI, gR_sL, aoS h, aoS h', a0, b0, a7, b7, a8, b8, a9, b9, w7, w8, w9, Int.toNat_natCast, x0, y0, x7, y7, x8, y8, x9, y9, l0, c0, ek, eq_true c1, c2, eo, eq_true c3, ew, eq_true c4, er, eq_true c5, t7, b2_no s]
              · rw [if_neg (fun z => c5 z.1.2.2)]
                refine cvc_0 ?_
                simp only [M235, e235_0, e235_164, Option.getD_some, Option.bind_some, Option.toList_some, Option.toList_none, List.cons_append, List.nil_append, and_self, and_true, true_and, false_and, and_false, ite_self, not_true_eq_false, not_false_eq_true, reduceIte, Nat.reduceEqDiff, ab_I, ab_L, ab_R, ao_I, ao_L, ao_R, gL_sL, gI_sI, gR_sR, gI_sL, gI_sR, gL_sI, gL_sR, gR_sI, gR_sL, aoS h, aoS h', a0, b0, a7, b7, a8, b8, a9, b9, w7, w8, w9, Int.toNat_natCast, x0, y0, x7, y7, x8, y8, x9, y9, l0, c0, ek, eq_true c1, c2, eo, eq_true c3, ew, eq_true c4, er, c5]
            · rw [if_neg (fun z => c4 z.1.1)]
              refine cvc_0 ?_
              simp only [M235, e235_0, e235_164, Option.getD_some, Option.bind_some, Option.toList_some, Option.toList_none, List.cons_append, List.nil_append, and_self, and_true, true_and, false_and, and_false, ite_self, not_true_eq_false, not_false_eq_true, reduceIte, Nat.reduceEqDiff, ab_I, ab_L, ab_R, ao_I, ao_L, ao_R, gL_sL, gI_sI, gR_sR, gI_sL, gI_sR, gL_sI, gL_sR, gR_sI, gR_sL, aoS h, aoS h', a0, b0, a7, b7, a8, b8, w7, w8, Int.toNat_natCast, x0, y0, x7, y7, x8, y8, l0, c0, ek, eq_true c1, c2, eo, eq_true c3, ew, c4]
          · rw [if_neg (fun z => c3 z.1.2.1)]
            refine cvc_0 ?_
            simp only [M235, e235_0, e235_164, Option.getD_some, Option.bind_some, Option.toList_some, Option.toList_none, List.cons_append, List.nil_append, and_self, and_true, true_and, false_and, and_false, ite_self, not_true_eq_false, not_false_eq_true, reduceIte, Nat.reduceEqDiff, ab_I, ab_L, ab_R, ao_I, ao_L, ao_R, gL_sL, gI_sI, gR_sR, gI_sL, gI_sR, gL_sI, gL_sR, gR_sI, gR_sL, aoS h, aoS h', a0, b0, a7, b7, w7, Int.toNat_natCast, x0, y0, x7, y7, l0, c0, ek, eq_true c1, c2, eo, c3]
      · rw [if_pos c1]
        refine cvc_0 ?_
        simp only [M235, e235_0, Option.getD_some, Option.bind_some, Option.toList_some, Option.toList_none, List.cons_append, List.nil_append, and_self, and_true, true_and, false_and, and_false, ite_self, not_true_eq_false, not_false_eq_true, reduceIte, Nat.reduceEqDiff, ab_I, ab_L, ab_R, ao_I, ao_L, ao_R, gL_sL, gI_sI, gR_sR, gI_sL, gI_sR, gL_sI, gL_sR, gR_sI, gR_sL, aoS h, aoS h', a0, b0, Int.toNat_natCast, x0, y0, l0, c0, ek, c1]
/-! the whole row -/
def cvX (A S : ST) : List Nat → PR → Option PR
  | [], P => some P
  | m :: l, P => match covP P (plX A m) (plX S m) with
    | some P' => cvX A S l P'
    | none => none
theorem covP_V (h : vk u = 0 → vr u = 0) : covP P u v = covV P u v := by
  unfold covP
  by_cases c0 : vk u = 0
  · rw [if_neg (not_not_intro c0), if_pos (Or.inl (h c0))]
    unfold covV
    rw [if_pos c0]
  · rw [if_pos c0]
    by_cases d0 : vk v = 0
    · rw [if_neg (not_not_intro d0)]
      unfold covV
      rw [if_neg c0, if_pos (by omega)]
    · rw [if_pos d0]
theorem covP_3 {f : Int} : covP P (mkV 3 f 0) (mkV 3 f 0) = some P := by
  have c : covN (vn (mkV 3 f 0)) (vn (mkV 3 f 0)) := by
    show covN (cstN 0#64) (cstN 0#64)
    decide
  have k3 : ¬ vk (mkV 3 f 0) = 0 := by show ¬ (3 : Int) = 0; decide
  have k1 : ¬ vk (mkV 3 f 0) = 1 := by show ¬ (3 : Int) = 1; decide
  unfold covP
  rw [if_pos k3, if_pos k3]
  unfold covV
  rw [if_neg k3, if_neg (not_not_intro rfl), if_neg k1, if_pos ⟨⟨rfl, rfl, Int.le_refl _⟩, c⟩]
  unfold answ
  rw [if_pos (show vt (mkV 3 f 0) = 0 ∨ vt (mkV 3 f 0) = 0 from Or.inl rfl), if_pos rfl]
abbrev idX (m : Nat) : Nat := 26 * (m / 27) + (if m % 27 ≤ 10 then m % 27 else m % 27 - 1)
theorem cvX_K (hx : xS A) : ∀ (j m : Nat) (P : PR), 27 * sF A = m + j → cvX A S (List.range' m j) P = covK A S (List.range' (idX m) (26 * sF A - idX m)) P := by
  intro j
  induction j with
  | zero =>
    intro m P e
    have : 26 * sF A - idX m = 0 := by
      unfold idX
      split <;> omega
    rw [this]
    rfl
  | succ j ih =>
    intro m P e
    rw [List.range'_succ]
    show (match covP P (plX A m) (plX S m) with | some P' => cvX A S (List.range' (m + 1) j) P' | none => none) = _
    by_cases c : m % 27 = 10
    · have p1 : plX A m = mkV 3 ((m / 27 : Nat) : Int) 0 := if_pos c
      have p2 : plX S m = mkV 3 ((m / 27 : Nat) : Int) 0 := if_pos c
      rw [p1, p2, covP_3]
      have : idX m = idX (m + 1) := by
        unfold idX
        rw [if_pos (by omega), if_neg (by omega)]
        omega
      rw [this]
      exact ih (m + 1) P (by omega)
    · have e1 : idX (m + 1) = idX m + 1 := by
        unfold idX
        by_cases d : m % 27 = 26
        · rw [if_pos (by omega), if_neg (by omega)]
          omega
        · by_cases d2 : m % 27 < 10
          · rw [if_pos (by omega), if_pos (by omega)]
            omega
          · rw [if_neg (by omega), if_neg (by omega)]
            omega
      have le : idX m < 26 * sF A := by
        unfold idX
        split <;> omega
      rw [show 26 * sF A - idX m = (26 * sF A - (idX m + 1)) + 1 by omega, List.range'_succ]
      show _ = (match (if idX m % 26 < 10 then covV P (sV A (idX m)) (sV S (idX m)) else covP P (sV A (idX m)) (sV S (idX m))) with | some P' => covK A S (List.range' (idX m + 1) (26 * sF A - (idX m + 1))) P' | none => none)
      have pl : ∀ T : ST, plX T m = sV T (idX m) := fun T => by
        unfold plX idX
        rw [if_neg c]
        by_cases d2 : m % 27 < 10
        · rw [if_pos d2, if_pos (by omega)]
        · rw [if_neg d2, if_neg (by omega)]
      have eq : covP P (plX A m) (plX S m) = (if idX m % 26 < 10 then covV P (sV A (idX m)) (sV S (idX m)) else covP P (sV A (idX m)) (sV S (idX m))) := by
        rw [pl, pl]
        split
        · rename_i r
          exact covP_V (hx.2 _ le r)
        · rfl
      rw [← eq]
      rcases covP P (plX A m) (plX S m) with _ | P'
      · rfl
      · show cvX A S (List.range' (m + 1) j) P' = covK A S (List.range' (idX m + 1) (26 * sF A - (idX m + 1))) P'
        rw [← e1]
        exact ih (m + 1) P' (by omega)
theorem vc_at (h : vc τ σ) (c : cAt σ k pl v) : cAt τ k pl v := fun i hi => (h.2.1 _ _).trans (c i hi)
theorem L234 (hk : isSt σ k) (hj : isSt σ j) (nk : 70 < k ∨ k + 3 < 70) (nj : 70 < j ∨ j + 3 < 70) (hA : CSt σ k A) (hS : CSt σ j S) (hF : sF A = sF S ∧ sF A ≤ 4) (wA : okX A) (wS : okX S) : ∀ (i m : Nat) (P : PR) (τ : MS), 27 * sF A = m + i → PRc τ P → vc τ σ → P.length ≤ 64 + m → okc (RR (lkB tb234) (B234_100, [some (mR (some k)), some (mR (some j)), some (mR (some 70)), some (mI ((11 * m : Nat) : Int))], [], τ)) (some (mI (bSo (cvX A S (List.range' m i) P)))) (fun τ' => vc τ' σ) := by
  intro i
  induction i with
  | zero =>
    intro m P τ e hP hq hl
    have hτ := st_r hq.2.2 hk
    have g3 : gI τ k 3 = (sF A : Int) := (hq.1 _ _ (by omega)).trans hA.1.1
    have le : ((297 * sF A : Nat) : Int) ≤ ((11 * m : Nat) : Int) := by omega
    simp only [e234_100, Option.getD_some, Option.bind_some, Option.toList_some, Option.toList_none, List.cons_append, List.nil_append, and_self, and_true, true_and, false_and, and_false, ite_self, not_true_eq_false, not_false_eq_true, reduceIte, Nat.reduceEqDiff, ab_I, ab_L, ab_R, ao_I, ao_L, ao_R, gL_sL, gI_sI, gR_sR, gI_sL, gI_sR, gL_sI, gL_sR, gR_sI, gR_sL, aoS hτ, g3, wF_27 hF.2, le]
    exact okc_s hq
  | succ i ih =>
    intro m P τ e hP hq hl
    have hτ := st_r hq.2.2 hk
    have hτ' := st_r hq.2.2 hj
    have g3 : gI τ k 3 = (sF A : Int) := (hq.1 _ _ (by omega)).trans hA.1.1
    have nl : ¬ ((297 * sF A : Nat) : Int) ≤ ((11 * m : Nat) : Int) := by omega
    have t := T235 hτ hτ' (show 11 * m + 11 ≤ 1188 by omega) (vc_at hq (CSt_al hA m (by omega))) (vc_at hq (CSt_al hS m (by omega))) (wA m (by omega)) (wS m (by omega)) hP (by omega)
    have w := w11 (show m < 1000 by omega)
    rw [List.range'_succ]
    show okc _ (some (mI (bSo (match covP P (plX A m) (plX S m) with | some P' => cvX A S (List.range' (m + 1) i) P' | none => none)))) _
    rcases hV : covP P (plX A m) (plX S m) with _ | P'
    · rw [hV] at t
      obtain ⟨τ', e', q⟩ := t
      show okc _ (some (mI 0)) _
      simp only [e234_100, e234_119, Option.getD_some, Option.bind_some, Option.toList_some, Option.toList_none, List.cons_append, List.nil_append, and_self, and_true, true_and, false_and, and_false, ite_self, not_true_eq_false, not_false_eq_true, reduceIte, Nat.reduceEqDiff, ab_I, ab_L, ab_R, ao_I, ao_L, ao_R, gL_sL, gI_sI, gR_sR, gI_sL, gI_sR, gL_sI, gL_sR, gR_sI, gR_sL, aoS hτ, g3, wF_27 hF.2, nl, e']
      exact okc_s (vc_t q hq)
    · rw [hV] at t
      obtain ⟨τ', e', q1, q2, q3⟩ := t
      have n := ih (m + 1) P' τ' (by omega) q1 (vc_t q2 hq) (by omega)
      rw [e234_100]
      simp only [e234_119, Option.getD_some, Option.bind_some, Option.toList_some, Option.toList_none, List.cons_append, List.nil_append, and_self, and_true, true_and, false_and, and_false, ite_self, not_true_eq_false, not_false_eq_true, reduceIte, Nat.reduceEqDiff, ab_I, ab_L, ab_R, ao_I, ao_L, ao_R, gL_sL, gI_sI, gR_sR, gI_sL, gI_sR, gL_sI, gL_sR, gR_sI, gR_sL, aoS hτ, g3, wF_27 hF.2, nl, e', oneI, w]
      exact n
def covRx (A S : ST) (L1 L2 : List Int) (P : PR) : Bool := match covH L1 L2 P with
  | some P' => (cvX A S (List.range' 0 (27 * sF A)) P').isSome
  | none => false
theorem L234h (hk : isSt σ k) (hj : isSt σ j) (nk : 70 < k ∨ k + 3 < 70) (nj : 70 < j ∨ j + 3 < 70) (hA : CSt σ k A) (hS : CSt σ j S) (hF : sF A = sF S ∧ sF A ≤ 4) (wA : okX A) (wS : okX S) (hH : (sH A).length = (sH S).length ∧ (sH A).length ≤ 64) : ∀ (L1 L2 : List Int) (m : Nat) (P : PR) (τ : MS), L1.length = L2.length → (sH A).length = m + L1.length → (∀ i, i < L1.length → (sH A).getD (m + i) 0 = L1.getD i 0) → (∀ i, i < L2.length → (sH S).getD (m + i) 0 = L2.getD i 0) → PRc τ P → vc τ σ → P.length ≤ m → okc (RR (lkB tb234) (B234_63, [some (mR (some k)), some (mR (some j)), some (mR (some 70)), some (mI (m : Int))], [], τ)) (some (mI (b2 (covRx A S L1 L2 P = true)))) (fun τ' => vc τ' σ) := by
  intro L1
  induction L1 with
  | nil =>
    intro L2 m P τ e1 e2 h1 h2 hP hq hl
    have e2 : (sH A).length = m := e2
    have hτ := st_r hq.2.2 hk
    have g4 : gI τ k 4 = ((sH A).length : Int) := (hq.1 _ _ (by omega)).trans hA.1.2
    have le : ((sH A).length : Int) ≤ (m : Int) := by omega
    have l := L234 hk hj nk nj hA hS hF wA wS (27 * sF A) 0 P τ (by omega) hP hq (by omega)
    have eR : covRx A S [] L2 P = (cvX A S (List.range' 0 (27 * sF A)) P).isSome := rfl
    rw [eR]
    simp only [e234_63, Option.getD_some, Option.bind_some, Option.toList_some, Option.toList_none, List.cons_append, List.nil_append, and_self, and_true, true_and, false_and, and_false, ite_self, not_true_eq_false, not_false_eq_true, reduceIte, Nat.reduceEqDiff, ab_I, ab_L, ab_R, ao_I, ao_L, ao_R, gL_sL, gI_sI, gR_sR, gI_sL, gI_sR, gL_sI, gL_sR, gR_sI, gR_sL, aoS hτ, g4, le]
    exact l
  | cons a L1 ih =>
    intro L2 m P τ e1 e2 h1 h2 hP hq hl
    rcases L2 with _ | ⟨b, L2⟩
    · cases e1
    · have e1 : L1.length = L2.length := Nat.succ.inj e1
      have e2 : (sH A).length = m + (L1.length + 1) := e2
      have hτ := st_r hq.2.2 hk
      have hτ' := st_r hq.2.2 hj
      have g4 : gI τ k 4 = ((sH A).length : Int) := (hq.1 _ _ (by omega)).trans hA.1.2
      have ga : gI τ (k + 1 + 2) m = a := by
        rw [hq.1 _ _ (by omega), hA.2.2.2.2.2 m (by omega)]
        exact h1 0 (Nat.succ_pos _)
      have gb : gI τ (j + 1 + 2) m = b := by
        rw [hq.1 _ _ (by omega), hS.2.2.2.2.2 m (by omega)]
        exact h2 0 (Nat.succ_pos _)
      have nl : ¬ ((sH A).length : Int) ≤ (m : Int) := by omega
      have m64 : (m : Int) < 64 := by omega
      have b1 : (Option.isSome (some (k + 1 + 2)) = true ∧ ab τ 3 (k + 1 + 2) (m : Int)) = True := eq_true ((abH hτ).mpr ⟨Int.natCast_nonneg _, m64⟩)
      have b2' : (Option.isSome (some (j + 1 + 2)) = true ∧ ab τ 3 (j + 1 + 2) (m : Int)) = True := eq_true ((abH hτ').mpr ⟨Int.natCast_nonneg _, m64⟩)
      have t := T238 (a := a) (b := b) hP (by omega)
      have m1 : m < 100000 := by omega
      have eR : covRx A S (a :: L1) (b :: L2) P = (match answ P a b with | some P' => covRx A S L1 L2 P' | none => false) := by
        unfold covRx
        show (match (match answ P a b with | some P' => covH L1 L2 P' | none => none) with | some P' => (cvX A S (List.range' 0 (27 * sF A)) P').isSome | none => false) = _
        rcases answ P a b with _ | P'
        · rfl
        · rfl
      rw [eR]
      rcases hV : answ P a b with _ | P'
      · rw [hV] at t
        obtain ⟨τ', e', q⟩ := t
        rw [show b2 ((match (none : Option PR) with | some P' => covRx A S L1 L2 P' | none => false) = true) = 0 from rfl]
        simp only [e234_63, e234_87, Option.getD_some, Option.bind_some, Option.toList_some, Option.toList_none, List.cons_append, List.nil_append, and_self, and_true, true_and, false_and, and_false, ite_self, not_true_eq_false, not_false_eq_true, reduceIte, Nat.reduceEqDiff, ab_I, ab_L, ab_R, ao_I, ao_L, ao_R, gL_sL, gI_sI, gR_sR, gI_sL, gI_sR, gL_sI, gL_sR, gR_sI, gR_sL, aoS hτ, aoS hτ', g4, nl, b1, b2', Int.toNat_natCast, ga, gb, e']
        exact okc_s (vc_t q hq)
      · rw [hV] at t
        obtain ⟨τ', e', q1, q2, q3⟩ := t
        have n := ih L2 (m + 1) P' τ' e1 (by omega) (fun i hi => by
          have := h1 (i + 1) (Nat.succ_lt_succ hi)
          rw [show m + 1 + i = m + (i + 1) by omega]
          exact this) (fun i hi => by
          have := h2 (i + 1) (Nat.succ_lt_succ hi)
          rw [show m + 1 + i = m + (i + 1) by omega]
          exact this) q1 (vc_t q2 hq) (by omega)
        have w := w32_s m1
        rw [e234_63]
        simp only [e234_87, Option.getD_some, Option.bind_some, Option.toList_some, Option.toList_none, List.cons_append, List.nil_append, and_self, and_true, true_and, false_and, and_false, ite_self, not_true_eq_false, not_false_eq_true, reduceIte, Nat.reduceEqDiff, ab_I, ab_L, ab_R, ao_I, ao_L, ao_R, gL_sL, gI_sI, gR_sR, gI_sL, gI_sR, gL_sI, gL_sR, gR_sI, gR_sL, aoS hτ, aoS hτ', g4, nl, b1, b2', Int.toNat_natCast, ga, gb, e', oneI, w]
        exact n
abbrev bkE (A S : ST) : Bool := (List.range (sF A)).all fun f => decide (f = 0 ∨ sB A f = sB S f)
theorem T234 (hk : isSt σ k) (hj : isSt σ j) (nk : 70 < k ∨ k + 3 < 70) (nj : 70 < j ∨ j + 3 < 70) (hA : CSt σ k A) (hS : CSt σ j S) (hF : (1 ≤ sF A ∧ sF A ≤ 4) ∧ 1 ≤ sF S ∧ sF S ≤ 4) (wA : okX A) (wS : okX S) (hH : (sH A).length ≤ 64) (xA : xS A) : okc (MM 234 [mR (some k), mR (some j), mR (some 70)] σ) (some (mI (b2 (covS A S = true)))) (fun τ => vc τ σ) := by
  have f3 := hA.1.1
  have f3' := hS.1.1
  have f4 := hA.1.2
  have f4' := hS.1.2
  by_cases c1 : sF A = sF S
  · by_cases c2 : (sH A).length = (sH S).length
    · have q1 : vc (sI σ 70 0 0) σ := ⟨fun k s p => by rw [gI_sI, if_neg (fun z => p z.1)], fun _ _ => rfl, rfl⟩
      have hP : PRc (sI σ 70 0 0) [] := ⟨by rw [gI_sI, if_pos ⟨rfl, rfl⟩]; rfl, fun j hj => absurd hj (Nat.not_lt_zero _)⟩
      have hk1 : isSt (sI σ 70 0 0) k := hk
      have hj1 : isSt (sI σ 70 0 0) j := hj
      have cov : covS A S = (bkE A S && covRx A S (sH A) (sH S) []) := by
        have eX : ∀ P, (cvX A S (List.range' 0 (27 * sF A)) P).isSome = (covK A S (List.range (26 * sF A)) P).isSome := fun P => by
          rw [cvX_K xA (27 * sF A) 0 P (by omega), List.range_eq_range']
          rfl
        unfold covS covRx
        rw [decide_eq_true (show sF A = sF S ∧ (sH A).length = (sH S).length from ⟨c1, c2⟩), Bool.true_and]
        congr 1
        rcases covH (sH A) (sH S) [] with _ | P
        · rfl
        · exact (eX P).symm
      -- where FUNCTIONS go back
      have key : ∀ (i f : Nat), f + i = sF A → 1 ≤ f → (∀ g, 1 ≤ g → g < f → sB A g = sB S g) → okc (RR (lkB tb234) (B234_30, [some (mR (some k)), some (mR (some j)), some (mR (some 70)), some (mI (f : Int))], [], sI σ 70 0 0)) (some (mI (b2 (covS A S = true)))) (fun τ => vc τ σ) := by
        intro i
        induction i with
        | zero =>
          intro f e f1 hb
          have le : (sF A : Int) ≤ (f : Int) := by omega
          have bt : bkE A S = true := List.all_eq_true.mpr fun g hg => by
            have := List.mem_range.mp hg
            by_cases g0 : g = 0
            · exact decide_eq_true (Or.inl g0)
            · exact decide_eq_true (Or.inr (hb g (by omega) (by omega)))
          have l := L234h hk hj nk nj hA hS ⟨c1, hF.1.2⟩ wA wS ⟨c2, hH⟩ (sH A) (sH S) 0 [] (sI σ 70 0 0) c2 (by omega) (fun i _ => by rw [Nat.zero_add]) (fun i _ => by rw [Nat.zero_add]) hP q1 (Nat.zero_le _)
          rw [cov, bt, Bool.true_and]
          have g3 : gI (sI σ 70 0 0) k 3 = (sF A : Int) := (q1.1 _ _ (by omega)).trans f3
          rw [e234_30]
          simp only [Option.getD_some, Option.bind_some, Option.toList_some, Option.toList_none, List.cons_append, List.nil_append, and_self, and_true, true_and, false_and, and_false, ite_self, not_true_eq_false, not_false_eq_true, reduceIte, Nat.reduceEqDiff, ab_I, ab_L, ab_R, ao_I, ao_L, ao_R, gL_sL, gI_sI, gR_sR, gI_sL, gI_sR, gL_sI, gL_sR, gR_sI, gR_sL, aoS hk, g3, le]
          exact l
        | succ i ih =>
          intro f e f1 hb
          have nl : ¬ (sF A : Int) ≤ (f : Int) := by omega
          have f4 : (f : Int) < 4 := by omega
          have b1 : (Option.isSome (some (k + 1 + 1)) = true ∧ ab (sI σ 70 0 0) 3 (k + 1 + 1) (f : Int)) = True := eq_true ((abB hk1).mpr ⟨Int.natCast_nonneg _, f4⟩)
          have b2' : (Option.isSome (some (j + 1 + 1)) = true ∧ ab (sI σ 70 0 0) 3 (j + 1 + 1) (f : Int)) = True := eq_true ((abB hj1).mpr ⟨Int.natCast_nonneg _, f4⟩)
          have g3 : gI (sI σ 70 0 0) k 3 = (sF A : Int) := (q1.1 _ _ (by omega)).trans f3
          have ga : gI (sI σ 70 0 0) (k + 1 + 1) f = sB A f := (q1.1 _ _ (by omega)).trans (hA.2.2.2.2.1 f f1 (by omega))
          have gb : gI (sI σ 70 0 0) (j + 1 + 1) f = sB S f := (q1.1 _ _ (by omega)).trans (hS.2.2.2.2.1 f f1 (by omega))
          have f1' : f < 100000 := by omega
          by_cases c : sB A f = sB S f
          · have n := ih (f + 1) (by omega) (by omega) (fun g g1 g2 => by
              by_cases z : g = f
              · rw [z]; exact c
              · exact hb g g1 (by omega))
            have w := w32_s f1'
            rw [e234_30]
            simp only [Option.getD_some, b1, b2', aoS hk1, aoS hj1, g3, nl, Int.toNat_natCast, ga, gb, eq_true c, w, if_true, if_false]
            exact n
          · have bf : bkE A S = false := List.all_eq_false.mpr ⟨f, List.mem_range.mpr (by omega), fun z => by
              rcases of_decide_eq_true z with z | z
              · omega
              · exact c z⟩
            rw [cov, bf, Bool.false_and, b2_no (p := false = true) (by decide)]
            rw [e234_30]
            simp only [Option.getD_some, b1, b2', aoS hk1, aoS hj1, g3, nl, Int.toNat_natCast, ga, gb, eq_false c, if_true, if_false]
            exact okc_s q1
      have := key (sF A - 1) 1 (by omega) (Nat.le_refl _) (fun g g1 g2 => absurd g1 (by omega))
      have ef : (((sF A : Nat) : Int) = ((sF S : Nat) : Int)) = True := eq_true (by rw [c1])
      have eh : (((sH A).length : Int) = ((sH S).length : Int)) = True := eq_true (by rw [c2])
      have i0 : (0 : Int) < 345 := by decide
      simp only [M234, e234_0, Option.getD_some, Option.bind_some, Option.toList_some, Option.toList_none, List.cons_append, List.nil_append, and_self, and_true, true_and, false_and, and_false, ite_self, not_true_eq_false, not_false_eq_true, reduceIte, Nat.reduceEqDiff, ab_I, ab_L, ab_R, ao_I, ao_L, ao_R, gL_sL, gI_sI, gR_sR, gI_sL, gI_sR, gL_sI, gL_sR, gR_sI, gR_sL, aoS hk, aoS hj, f3, f3', f4, f4', ef, eh, g_70, Int.le_refl, i0, Int.toNat_zero]
      exact this
    · have cf : covS A S = false := by
        unfold covS
        rw [decide_eq_false (fun z => c2 z.2)]
        rfl
      rw [cf, b2_no (p := false = true) (by decide)]
      have ef : (((sF A : Nat) : Int) = ((sF S : Nat) : Int)) = True := eq_true (by rw [c1])
      have eh : (((sH A).length : Int) = ((sH S).length : Int)) = False := eq_false (by omega)
      simp only [M234, e234_0, Option.getD_some, Option.bind_some, Option.toList_some, Option.toList_none, List.cons_append, List.nil_append, and_self, and_true, true_and, false_and, and_false, ite_self, not_true_eq_false, not_false_eq_true, reduceIte, Nat.reduceEqDiff, ab_I, ab_L, ab_R, ao_I, ao_L, ao_R, gL_sL, gI_sI, gR_sR, gI_sL, gI_sR, gL_sI, gL_sR, gR_sI, gR_sL, aoS hk, aoS hj, f3, f3', f4, f4', ef, eh]
      exact okc_s (vc_r _)
  · have cf : covS A S = false := by
      unfold covS
      rw [decide_eq_false (fun z => c1 z.1)]
      rfl
    rw [cf, b2_no (p := false = true) (by decide)]
    have ef : (((sF A : Nat) : Int) = ((sF S : Nat) : Int)) = False := eq_false (by omega)
    simp only [M234, e234_0, Option.getD_some, Option.bind_some, Option.toList_some, Option.toList_none, List.cons_append, List.nil_append, and_self, and_true, true_and, false_and, and_false, ite_self, not_true_eq_false, not_false_eq_true, reduceIte, Nat.reduceEqDiff, ab_I, ab_L, ab_R, ao_I, ao_L, ao_R, gL_sL, gI_sI, gR_sR, gI_sL, gI_sR, gL_sI, gL_sR, gR_sI, gR_sL, aoS hk, aoS hj, f3, f3', ef]
    exact okc_s (vc_r _)
end CCV
