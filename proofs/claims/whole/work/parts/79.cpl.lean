/-! ===== the class's states: places in a row ===== -/
/-- VALUE m of a row: 27 a frame, the tenth its stack -/
def plX (S : ST) (m : Nat) : VL := if m % 27 = 10 then mkV 3 ((m / 27 : Nat) : Int) 0 else sV S (26 * (m / 27) + (if m % 27 < 10 then m % 27 else m % 27 - 1))
def cHd (σ : MS) (k : Nat) (S : ST) : Prop := (gI σ k 3 = (sF S : Int) ∧ gI σ k 4 = ((sH S).length : Int)) ∧ (∀ f, 1 ≤ f → f < sF S → gI σ (k + 1 + 1) f = sB S f) ∧ ∀ j, j < (sH S).length → gI σ (k + 1 + 2) j = (sH S).getD j 0
def cAl (σ : MS) (k n : Nat) (P : Nat → VL) : Prop := ∀ m, m < n → cAt σ k (11 * m) (P m)
section CPL
variable {σ τ : MS} {k j m n r f q pl : Nat} {S : ST} {P P' : Nat → VL} {u v : VL} {x y a : Int}
theorem plX_r (hr : r < 10) : plX S (27 * f + r) = sV S (26 * f + r) := by
  unfold plX
  rw [if_neg (by omega), if_pos (by omega), show 26 * ((27 * f + r) / 27) + (27 * f + r) % 27 = 26 * f + r by omega]
theorem plX_s : plX S (27 * f + 10) = mkV 3 (f : Int) 0 := by
  unfold plX
  rw [if_pos (by omega), show (27 * f + 10) / 27 = f by omega]
theorem plX_p (hq : q < 16) : plX S (27 * f + 11 + q) = sV S (26 * f + 10 + q) := by
  unfold plX
  rw [if_neg (by omega), if_neg (by omega), show 26 * ((27 * f + 11 + q) / 27) + ((27 * f + 11 + q) % 27 - 1) = 26 * f + 10 + q by omega]
theorem cHd_of (h : CSt σ k S) : cHd σ k S := ⟨h.1, h.2.2.2.2.1, h.2.2.2.2.2⟩
theorem CSt_al (h : CSt σ k S) : cAl σ k (27 * sF S) (plX S) := fun m hm => by
  obtain ⟨-, v1, v2, v3, -⟩ := h
  by_cases c : m % 27 = 10
  · have e : m = 27 * (m / 27) + 10 := by omega
    have := v2 (m / 27) (by omega)
    rw [show 297 * (m / 27) + 110 = 11 * m by omega] at this
    rw [e, plX_s, ← e]
    exact this
  · by_cases d : m % 27 < 10
    · have e : m = 27 * (m / 27) + m % 27 := by omega
      have := v1 (m / 27) (m % 27) (by omega) d
      rw [show 297 * (m / 27) + 11 * (m % 27) = 11 * m by omega] at this
      have z := plX_r (S := S) (f := m / 27) d
      rw [← e] at z
      rw [z]
      exact this
    · have e : m = 27 * (m / 27) + 11 + (m % 27 - 11) := by omega
      have := v3 (m / 27) (m % 27 - 11) (by omega) (by omega)
      rw [show 297 * (m / 27) + 121 + 11 * (m % 27 - 11) = 11 * m by omega] at this
      have z := plX_p (S := S) (f := m / 27) (show m % 27 - 11 < 16 by omega)
      rw [← e] at z
      rw [z]
      exact this
theorem CSt_of (h : cHd σ k S) (a : cAl σ k (27 * sF S) (plX S)) : CSt σ k S := by
  refine ⟨h.1, fun f r hf hr => ?_, fun f hf => ?_, fun f q hf hq => ?_, h.2.1, h.2.2⟩
  · have := a (27 * f + r) (by omega)
    rwa [plX_r hr, show 11 * (27 * f + r) = 297 * f + 11 * r by omega] at this
  · have := a (27 * f + 10) (by omega)
    rwa [plX_s, show 11 * (27 * f + 10) = 297 * f + 110 by omega] at this
  · have := a (27 * f + 11 + q) (by omega)
    rwa [plX_p hq, show 11 * (27 * f + 11 + q) = 297 * f + 121 + 11 * q by omega] at this
def upP (P : Nat → VL) (m : Nat) (v : VL) : Nat → VL := fun i => if i = m then v else P i
theorem al_w (c : cxV τ σ k (11 * m) v) (a : cAl σ k n P) : cAl τ k n (upP P m v) := fun i hi => by
  unfold upP
  by_cases e : i = m
  · rw [if_pos e, e]
    exact c.2.2.2
  · rw [if_neg e]
    exact cx_o c (by omega) (a i hi)
theorem al_m (h : ∀ i, i < n → P i = P' i) (a : cAl σ k n P) : cAl σ k n P' := fun i hi => by
  rw [← h i hi]
  exact a i hi
/-- g for each VALUE -/
theorem plX_all {g : VL → VL} (hg : ∀ f : Nat, g (mkV 3 (f : Int) 0) = mkV 3 (f : Int) 0) (hm : m < 27 * sF S) : plX (allV S g) m = g (plX S m) := by
  unfold plX
  by_cases c : m % 27 = 10
  · rw [if_pos c, if_pos c, hg]
  · rw [if_neg c, if_neg c]
    show (if _ < 26 * sF S then g (sV S _) else sV S _) = _
    rw [if_pos]
    split <;> omega
theorem cAt_rg (h : CSt σ k S) (hF : 1 ≤ sF S) (hr : r ≤ 10) : cAt σ k (297 * (sF S - 1) + 11 * r) (rgV S r) := by
  unfold rgV
  by_cases c : r = 10
  · rw [if_pos c, c]
    have := h.2.2.1 (sF S - 1) (by omega)
    rwa [show ((sF S - 1 : Nat) : Int) = (sF S : Int) - 1 by omega] at this
  · rw [if_neg c]
    exact h.2.1 (sF S - 1) r (by omega) (by omega)
theorem gSt {i : Nat} (h : isSt σ k) (hi : i < 1188) : (Option.isSome (some (k + 1 + 0)) = true ∧ ab σ 4 (k + 1 + 0) (i : Int)) = True := by
  rw [abS h]
  exact eq_true ⟨by omega, by omega⟩
theorem w_pl {c : Nat} (h : pl + c < 100000) : w32 ((pl : Int) + (c : Int)) = ((pl + c : Nat) : Int) := by
  rw [w32_i (by omega) (by omega)]
  omega
theorem iL_e (hx : -2147483648 ≤ x ∧ x < 2147483648) (hy : -2147483648 ≤ y ∧ y < 2147483648) : (iL x = iL y) = (x = y) := by
  apply propext
  constructor
  · intro h
    have := congrArg BitVec.toInt h
    rwa [iLt (by omega) (by omega), iLt (by omega) (by omega)] at this
  · intro h
    rw [h]
theorem iL_z (hx : -2147483648 ≤ x ∧ x < 2147483648) : (iL x = 0#64) = (x = 0) := iL_e (y := 0) hx (by decide)
theorem iL_o (hx : -2147483648 ≤ x ∧ x < 2147483648) : (iL x = 1#64) = (x = 1) := iL_e (y := 1) hx (by decide)
theorem iLm (x y : Int) : iL x * iL y = iL (x * y) := (BitVec.ofInt_mul x y).symm
theorem iL_sh {b : Nat} (hb : b < 100000) : lShr (iL (b : Int)) 3 = iL ((b / 8 : Nat) : Int) := by
  apply BitVec.eq_of_toInt_eq
  have := lShr_toInt (iL (b : Int)) (n := 3) (by decide)
  rw [show lShr (iL (b : Int)) 3 = lShr (iL (b : Int)) ((3 : Nat) : Int) from rfl, this, iLt (by omega) (by omega), iLt (by omega) (by omega)]
  show (b : Int) / 8 = _
  omega
theorem T213 {b : Nat} (hf : f < 4) (e : a + 128 = (b : Int)) (hb : b < 128) : MM 213 [mL (iL (f : Int)), mL (iL a)] σ = some (some (mI ((297 * f + 121 + 11 * (b / 8) : Nat) : Int)), σ) := by
  have z : lI ((iL (f : Int) * iL 297) + ((iL 11 + lShr (iL a + iL 128) 3) * iL 11)) = ((297 * f + 121 + 11 * (b / 8) : Nat) : Int) := by
    rw [iLa, e, iL_sh (by omega), iLm, iLa, iLm, iLa, lIi (by omega) (by omega)]
    omega
  simp only [M213, e213_0, z]
theorem an7 {b : Nat} (e : a + 128 = (b : Int)) (hb : b < 100000) : iL a &&& iL 7 = iL ((b % 8 : Nat) : Int) := by
  apply BitVec.eq_of_toNat_eq
  have s7 : (iL 7).toNat = 2 ^ 3 - 1 := by decide
  rw [BitVec.toNat_and, s7, Nat.and_two_pow_sub_one_eq_mod]
  unfold iL
  rw [BitVec.toNat_ofInt, BitVec.toNat_ofInt]
  omega
theorem T222 {b : Nat} {c : Int} (h : isSt σ k) (e : a + 128 = (b : Int)) (hb : b < 100000) : MM 222 [mR (some k), mL (iL a), mI c] σ = some (some (mI (b2 (c = 8 ∧ b % 8 = 0))), σ) := by
  by_cases c8 : c = 8
  · by_cases d : b % 8 = 0
    · have z : iL a &&& iL 7 = BitVec.ofNat 64 0 := by
        rw [an7 e hb, d]
        rfl
      simp only [M222, e222_0, z, c8, d, b2_yes, Option.getD_some, Option.bind_some, Option.toList_some, Option.toList_none, List.cons_append, List.nil_append, and_self, and_true, true_and, false_and, and_false, ite_self, not_true_eq_false, not_false_eq_true, reduceIte, Nat.reduceEqDiff, ab_I, ab_L, ab_R, ao_I, ao_L, ao_R, gL_sL, gI_sI, gR_sR, gI_sL, gI_sR, gL_sI, gL_sR, gR_sI, gR_sL]
    · have z : ¬ iL a &&& iL 7 = BitVec.ofNat 64 0 := by
        rw [an7 e hb, iL_z (by omega)]
        omega
      simp only [M222, e222_0, e222_20, z, c8, d, b2_no, Option.getD_some, Option.bind_some, Option.toList_some, Option.toList_none, List.cons_append, List.nil_append, and_self, and_true, true_and, false_and, and_false, ite_self, not_true_eq_false, not_false_eq_true, reduceIte, Nat.reduceEqDiff, ab_I, ab_L, ab_R, ao_I, ao_L, ao_R, gL_sL, gI_sI, gR_sR, gI_sL, gI_sR, gL_sI, gL_sR, gR_sI, gR_sL]
  · simp only [M222, e222_0, e222_20, c8, b2_no, Option.getD_some, Option.bind_some, Option.toList_some, Option.toList_none, List.cons_append, List.nil_append, and_self, and_true, true_and, false_and, and_false, ite_self, not_true_eq_false, not_false_eq_true, reduceIte, Nat.reduceEqDiff, ab_I, ab_L, ab_R, ao_I, ao_L, ao_R, gL_sL, gI_sI, gR_sR, gI_sL, gI_sR, gL_sI, gL_sR, gR_sI, gR_sL]
/-- reading kinds and fields -/
theorem rd_0 (h : cAt σ k pl v) : gL σ (k + 1 + 0) pl = iL (vk v) := h 0 (by decide)
theorem rd_7 (h : cAt σ k pl v) : gL σ (k + 1 + 0) (pl + 7) = iL (vo v) := h 7 (by decide)
theorem rd_8 (h : cAt σ k pl v) : gL σ (k + 1 + 0) (pl + 8) = iL (vw v) := h 8 (by decide)
theorem rd_9 (h : cAt σ k pl v) (c : canV v) : gL σ (k + 1 + 0) (pl + 9) = iL (if vk v = 0 then 0 else vr v) := by
  have := h 9 (by decide)
  rw [this]
  show (if vk v = 0 then 0#64 else iL (vr v)) = _
  split <;> rfl
theorem rd_10 (h : cAt σ k pl v) : gL σ (k + 1 + 0) (pl + 10) = iL (vt v) := h 10 (by decide)
theorem rd_1 (h : cAt σ k pl v) : gL σ (k + 1 + 0) (pl + 1) = if vk v = 0 then iL (vr v) else jV (vn v) := h 1 (by decide)
theorem rd_1n (h : cAt σ k pl v) (z : ¬ vk v = 0) : gL σ (k + 1 + 0) (pl + 1) = jV (vn v) := (rd_1 h).trans (if_neg z)
theorem rd_2 (h : cAt σ k pl v) : gL σ (k + 1 + 0) (pl + 2) = jM (vn v) := h 2 (by decide)
theorem rd_3 (h : cAt σ k pl v) : gL σ (k + 1 + 0) (pl + 3) = jA (vn v) := h 3 (by decide)
theorem rd_4 (h : cAt σ k pl v) : gL σ (k + 1 + 0) (pl + 4) = jB (vn v) := h 4 (by decide)
theorem rd_5 (h : cAt σ k pl v) : gL σ (k + 1 + 0) (pl + 5) = jC (vn v) := h 5 (by decide)
theorem rd_6 (h : cAt σ k pl v) : gL σ (k + 1 + 0) (pl + 6) = jD (vn v) := h 6 (by decide)
theorem rd_row (h : cAt σ k pl v) (z : ¬ vk v = 0) : rowN σ (k + 1 + 0) pl = vn v := by
  unfold rowN
  rw [rd_1n h z, rd_2 h, rd_3 h, rd_4 h, rd_5 h, rd_6 h]
abbrev okK (v : VL) : Prop := 0 ≤ vk v ∧ vk v ≤ 10
theorem T223 {b : Nat} {c : Int} (h : isSt σ k) (hS : CSt σ k S) (hF : sF S ≤ 4) (hf : f < sF S) (e : a + 128 = (b : Int)) (hb : b < 128) (hk : okK (sV S (26 * f + 10 + b / 8))) : MM 223 [mR (some k), mL (iL (f : Int)), mL (iL a), mI c] σ = some (some (mI (if (c = 8 ∧ b % 8 = 0) ∧ ¬ vk (sV S (26 * f + 10 + b / 8)) = 0 then ((297 * f + 121 + 11 * (b / 8) : Nat) : Int) else -1)), σ) := by
  have hv := hS.2.2.2.1 f (b / 8) hf (by omega)
  have l : 297 * f + 121 + 11 * (b / 8) < 1188 := by omega
  have e0 := rd_0 hv
  have k0 : (iL (vk (sV S (26 * f + 10 + b / 8))) = BitVec.ofNat 64 0) = (vk (sV S (26 * f + 10 + b / 8)) = 0) := iL_z (by omega)
  have t13 := T213 (σ := σ) (show f < 4 by omega) e hb
  have t22 := T222 (c := c) h e (show b < 100000 by omega)
  by_cases w : c = 8 ∧ b % 8 = 0
  · rw [b2_yes w] at t22
    by_cases z : vk (sV S (26 * f + 10 + b / 8)) = 0
    · rw [if_neg (fun y => y.2 z)]
      simp only [M223, e223_0, e223_5, e223_14, e223_34, Option.getD_some, Option.bind_some, Option.toList_some, Option.toList_none, List.cons_append, List.nil_append, and_self, and_true, true_and, false_and, and_false, ite_self, not_true_eq_false, not_false_eq_true, reduceIte, Nat.reduceEqDiff, ab_I, ab_L, ab_R, ao_I, ao_L, ao_R, gL_sL, gI_sI, gR_sR, gI_sL, gI_sR, gL_sI, gL_sR, gR_sI, gR_sL, t13, t22, aoS h, gSt h l, Int.toNat_natCast, e0, k0, eq_true z, oneI]
    · rw [if_pos ⟨w, z⟩]
      simp only [M223, e223_0, e223_5, e223_14, e223_34, Option.getD_some, Option.bind_some, Option.toList_some, Option.toList_none, List.cons_append, List.nil_append, and_self, and_true, true_and, false_and, and_false, ite_self, not_true_eq_false, not_false_eq_true, reduceIte, Nat.reduceEqDiff, ab_I, ab_L, ab_R, ao_I, ao_L, ao_R, gL_sL, gI_sI, gR_sR, gI_sL, gI_sR, gL_sI, gL_sR, gR_sI, gR_sL, t13, t22, aoS h, gSt h l, Int.toNat_natCast, e0, k0, eq_false z, oneI]
  · rw [b2_no w] at t22
    rw [if_neg (fun y => w y.1)]
    simp only [M223, e223_0, e223_5, e223_14, e223_34, Option.getD_some, Option.bind_some, Option.toList_some, Option.toList_none, List.cons_append, List.nil_append, and_self, and_true, true_and, false_and, and_false, ite_self, not_true_eq_false, not_false_eq_true, reduceIte, Nat.reduceEqDiff, ab_I, ab_L, ab_R, ao_I, ao_L, ao_R, gL_sL, gI_sI, gR_sR, gI_sL, gI_sR, gL_sI, gL_sR, gR_sI, gR_sL, t13, t22, aoS h]
theorem T224 {b : Nat} {c : Int} (h : isSt σ k) (hf : f < 4) (e : a + 128 = (b : Int)) (hb : b < 100000) (hb2 : c = 8 ∧ b % 8 = 0 → b < 128) (hp : pl + 11 ≤ 1188) (hv : cAt σ k pl v) : okc (MM 224 [mR (some k), mL (iL (f : Int)), mL (iL a), mI c, mI (pl : Int)] σ) (some (mI (b2 (c = 8 ∧ b % 8 = 0)))) (fun τ => if c = 8 ∧ b % 8 = 0 then cxV τ σ k (297 * f + 121 + 11 * (b / 8)) v else τ = σ) := by
  have t22 := T222 (c := c) h e hb
  by_cases w : c = 8 ∧ b % 8 = 0
  · obtain ⟨τ, t, q⟩ := T216 (a := pl) (b := 297 * f + 121 + 11 * (b / 8)) h hp (by have := hb2 w; omega) hv
    rw [b2_yes w] at t22 ⊢
    refine okc_o (τ := τ) ?_ ((if_pos w).mpr q)
    simp only [M224, e224_0, e224_7, e224_20, e224_23, Option.getD_some, Option.bind_some, Option.toList_some, Option.toList_none, List.cons_append, List.nil_append, and_self, and_true, true_and, false_and, and_false, ite_self, not_true_eq_false, not_false_eq_true, reduceIte, Nat.reduceEqDiff, ab_I, ab_L, ab_R, ao_I, ao_L, ao_R, gL_sL, gI_sI, gR_sR, gI_sL, gI_sR, gL_sI, gL_sR, gR_sI, gR_sL, T213 (σ := σ) hf e (hb2 w), t22, aoS h, t, oneI]
  · rw [b2_no w] at t22 ⊢
    refine okc_o (τ := σ) ?_ ((if_neg w).mpr rfl)
    simp only [M224, e224_0, e224_7, Option.getD_some, Option.bind_some, Option.toList_some, Option.toList_none, List.cons_append, List.nil_append, and_self, and_true, true_and, false_and, and_false, ite_self, not_true_eq_false, not_false_eq_true, reduceIte, Nat.reduceEqDiff, ab_I, ab_L, ab_R, ao_I, ao_L, ao_R, gL_sL, gI_sI, gR_sR, gI_sL, gI_sR, gL_sI, gL_sR, gR_sI, gR_sL, t22, aoS h]
theorem T225 {b : Nat} {c : Int} (h : isSt σ k) (hf : f < 4) (e : a + 128 = (b : Int)) (hb : b < 100000) (hb2 : c = 8 ∧ b % 8 = 0 → b < 128) (hj : isNm σ j) (hne : ¬ j = k + 1 + 0) : okc (MM 225 [mR (some k), mL (iL (f : Int)), mL (iL a), mI c, mR (some j)] σ) (some (mI (b2 (c = 8 ∧ b % 8 = 0)))) (fun τ => if c = 8 ∧ b % 8 = 0 then cxV τ σ k (297 * f + 121 + 11 * (b / 8)) (numV (rC σ j)) else τ = σ) := by
  have t22 := T222 (c := c) h e hb
  by_cases w : c = 8 ∧ b % 8 = 0
  · obtain ⟨τ, t, q⟩ := T218 (pl := 297 * f + 121 + 11 * (b / 8)) h hj hne (by have := hb2 w; omega)
    rw [b2_yes w] at t22 ⊢
    refine okc_o (τ := τ) ?_ ((if_pos w).mpr q)
    simp only [M225, e225_0, e225_7, e225_18, e225_23, Option.getD_some, Option.bind_some, Option.toList_some, Option.toList_none, List.cons_append, List.nil_append, and_self, and_true, true_and, false_and, and_false, ite_self, not_true_eq_false, not_false_eq_true, reduceIte, Nat.reduceEqDiff, ab_I, ab_L, ab_R, ao_I, ao_L, ao_R, gL_sL, gI_sI, gR_sR, gI_sL, gI_sR, gL_sI, gL_sR, gR_sI, gR_sL, T213 (σ := σ) hf e (hb2 w), t22, aoS h, t, oneI]
  · rw [b2_no w] at t22 ⊢
    refine okc_o (τ := σ) ?_ ((if_neg w).mpr rfl)
    simp only [M225, e225_0, e225_7, Option.getD_some, Option.bind_some, Option.toList_some, Option.toList_none, List.cons_append, List.nil_append, and_self, and_true, true_and, false_and, and_false, ite_self, not_true_eq_false, not_false_eq_true, reduceIte, Nat.reduceEqDiff, ab_I, ab_L, ab_R, ao_I, ao_L, ao_R, gL_sL, gI_sI, gR_sR, gI_sL, gI_sR, gL_sI, gL_sR, gR_sI, gR_sL, t22, aoS h]
end CPL
