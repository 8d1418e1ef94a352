/-! ===== the class's states: all VALUES; what is held ===== -/
/-- what the state at cell k holds has changed -/
def chq (τ σ : MS) (k : Nat) : Prop := (∀ k' s, ¬ (k' = k ∧ s = 4) → ¬ k' = k + 1 + 2 → gI τ k' s = gI σ k' s) ∧ (∀ k' s, gL τ k' s = gL σ k' s) ∧ τ.2.2 = σ.2.2
/-- the state at cell k has changed -/
def csq (τ σ : MS) (k : Nat) : Prop := (∀ k' s, ¬ (k' = k ∧ (s = 3 ∨ s = 4)) → ¬ k' = k + 1 + 1 → ¬ k' = k + 1 + 2 → gI τ k' s = gI σ k' s) ∧ (∀ k' s, ¬ k' = k + 1 + 0 → gL τ k' s = gL σ k' s) ∧ τ.2.2 = σ.2.2
section CAL
variable {a b c τ σ : MS} {k m n : Nat} {S : ST} {t : Int} {v : VL} {P : Nat → VL}
theorem csq_r (σ : MS) (k : Nat) : csq σ σ k := ⟨fun _ _ _ _ _ => rfl, fun _ _ _ => rfl, rfl⟩
theorem csq_t (h1 : csq a b k) (h2 : csq b c k) : csq a c k := ⟨fun k' s p q r => (h1.1 k' s p q r).trans (h2.1 k' s p q r), fun k' s p => (h1.2.1 k' s p).trans (h2.2.1 k' s p), h1.2.2.trans h2.2.2⟩
theorem csq_c (h : crq τ σ k) : csq τ σ k := ⟨fun k' s _ _ _ => h.1 k' s, h.2.1, h.2.2⟩
theorem csq_h (h : chq τ σ k) : csq τ σ k := ⟨fun k' s p _ r => h.1 k' s (fun z => p ⟨z.1, Or.inr z.2⟩) r, fun k' s _ => h.2.1 k' s, h.2.2⟩
/-- a loop over all places of a row -/
theorem loopP {R : Nat → MS → Option Rs} {g : VL → VL} {Q : MS → Prop}
    (step : ∀ m τ, m < n → crq τ σ k → cAt τ k (11 * m) (P m) → ∀ Z : MS → Prop, (∀ τ', cxV τ' τ k (11 * m) (g (P m)) → okc (R (m + 1) τ') none Z) → okc (R m τ) none Z)
    (fin : ∀ τ, crq τ σ k → cAl τ k n (fun i => g (P i)) → okc (R n τ) none Q) (hP : cAl σ k n P) : okc (R 0 σ) none Q := by
  have key : ∀ (j m : Nat) (τ : MS), j + m = n → crq τ σ k → cAl τ k n (fun i => if i < m then g (P i) else P i) → okc (R m τ) none Q := by
    intro j
    induction j with
    | zero =>
      intro m τ e q h
      have e : m = n := by omega
      subst e
      exact fin τ q (al_m (fun i hi => if_pos hi) h)
    | succ j ih =>
      intro m τ e q h
      have hm : m < n := by omega
      have hv := h m hm
      simp only [Nat.lt_irrefl, if_false] at hv
      refine step m τ hm q hv _ fun τ' c => ?_
      refine ih (m + 1) τ' (by omega) (crq_t (crq_c c) q) (al_m (fun i hi => ?_) (al_w c h))
      unfold upP
      by_cases e : i = m
      · rw [if_pos e, if_pos (by omega), e]
      · rw [if_neg e]
        show (if i < m then g (P i) else P i) = (if i < m + 1 then g (P i) else P i)
        by_cases d : i < m
        · rw [if_pos d, if_pos (by omega)]
        · rw [if_neg d, if_neg (by omega)]
  exact key n 0 σ (by omega) (crq_r _ _) (al_m (fun i hi => (if_neg (Nat.not_lt_zero i)).symm) hP)
theorem cHd_q (h : crq τ σ k) (c : cHd σ k S) : cHd τ k S := ⟨⟨(h.1 _ _).trans c.1.1, (h.1 _ _).trans c.1.2⟩, fun f h1 h2 => (h.1 _ _).trans (c.2.1 f h1 h2), fun j hj => (h.1 _ _).trans (c.2.2 j hj)⟩
theorem CSt_all {g : VL → VL} (hg : ∀ f : Nat, g (mkV 3 (f : Int) 0) = mkV 3 (f : Int) 0) (h : CSt σ k S) (q : crq τ σ k) (a : cAl τ k (27 * sF S) (fun i => g (plX S i))) : CSt τ k (allV S g) := by
  refine CSt_of (S := allV S g) (show cHd τ k (allV S g) from cHd_q (S := S) q (cHd_of h)) (al_m (P := fun i => g (plX S i)) (P' := plX (allV S g)) (fun i hi => ?_) a)
  exact (plX_all (S := S) hg hi).symm
theorem wF_27 (h4 : sF S ≤ 4) : w32 ((sF S : Int) * 297) = ((297 * sF S : Nat) : Int) := by
  rw [w32_i (by omega) (by omega)]
  omega
theorem le_27 (hm : m < 27 * sF S) : ¬ ((297 * sF S : Nat) : Int) ≤ ((11 * m : Nat) : Int) := by omega
theorem w11 (h : m < 1000) : w32 (((11 * m : Nat) : Int) + 11) = ((11 * (m + 1) : Nat) : Int) := by
  rw [w32_i (by omega) (by omega)]
  omega
/-- all VALUES of a row in bounds -/
def okX (S : ST) : Prop := ∀ m, m < 27 * sF S → okW (plX S m)
theorem okX_of {E : EV} {t : Int} (ho : okS E t S) (hc : canS S) (hx : xS S) (ht : t < 1000000) : okX S := fun m hm => by
  unfold plX
  have F := ho.1
  by_cases c : m % 27 = 10
  · rw [if_pos c]
    exact okW_3 (by omega)
  · rw [if_neg c]
    exact okW_S ho hc hx ht (by split <;> omega)
/-- packets are gone -/
theorem T232 (h : isSt σ k) (hS : CSt σ k S) (h4 : sF S ≤ 4) (hX : okX S) : okc (MM 232 [mR (some k)] σ) none (fun τ => CSt τ k (allV S pktV) ∧ crq τ σ k) := by
  rw [M232, e232_0]
  have key := loopP (σ := σ) (k := k) (n := 27 * sF S) (P := plX S) (g := pktV) (Q := fun τ => CSt τ k (allV S pktV) ∧ crq τ σ k) (R := fun m τ => RR (lkB tb232) (B232_2, [some (mR (some k)), some (mI ((11 * m : Nat) : Int))], [], τ)) ?_ ?_ (CSt_al hS)
  · exact key
  · intro m τ hm q hv Z nx
    have hτ := st_r q.2.2 h
    have g3 : gI τ k 3 = (sF S : Int) := (q.1 _ _).trans hS.1.1
    have b := hX m hm
    have l : 11 * m + 11 ≤ 1188 := by omega
    generalize plX S m = v at *
    have k7 : (iL (vk v) = iL 7) = (vk v = 7) := iL_e (by have := b.1; omega) (by decide)
    have k8 : (iL (vk v) = iL 8) = (vk v = 8) := iL_e (by have := b.1; omega) (by decide)
    have z11 := w11 (show m < 1000 by omega)
    have nl := le_27 hm
    have wF := wF_27 h4
    by_cases c : vk v = 7 ∨ vk v = 8
    · obtain ⟨τ', t15, c15, -⟩ := T215 hτ l
      have n := nx τ' (by unfold pktV; rw [if_pos c]; exact c15)
      by_cases c7 : vk v = 7
      · show okc (RR (lkB tb232) (B232_2, [some (mR (some k)), some (mI ((11 * m : Nat) : Int))], [], τ)) none Z
        rw [e232_2]
        simp only [e232_40, e232_45, Option.getD_some, Option.bind_some, Option.toList_some, Option.toList_none, List.cons_append, List.nil_append, and_self, and_true, true_and, false_and, and_false, ite_self, not_true_eq_false, not_false_eq_true, reduceIte, Nat.reduceEqDiff, ab_I, ab_L, ab_R, ao_I, ao_L, ao_R, gL_sL, gI_sI, gR_sR, gI_sL, gI_sR, gL_sI, gL_sR, gR_sI, gR_sL, aoS hτ, g3, wF, nl, gSt hτ (show 11 * m < 1188 by omega), Int.toNat_natCast, rd_0 hv, k7, eq_true c7, t15, z11]
        exact n
      · have c8 : vk v = 8 := by omega
        show okc (RR (lkB tb232) (B232_2, [some (mR (some k)), some (mI ((11 * m : Nat) : Int))], [], τ)) none Z
        rw [e232_2]
        simp only [e232_40, e232_45, Option.getD_some, Option.bind_some, Option.toList_some, Option.toList_none, List.cons_append, List.nil_append, and_self, and_true, true_and, false_and, and_false, ite_self, not_true_eq_false, not_false_eq_true, reduceIte, Nat.reduceEqDiff, ab_I, ab_L, ab_R, ao_I, ao_L, ao_R, gL_sL, gI_sI, gR_sR, gI_sL, gI_sR, gL_sI, gL_sR, gR_sI, gR_sL, aoS hτ, g3, wF, nl, gSt hτ (show 11 * m < 1188 by omega), Int.toNat_natCast, rd_0 hv, k7, k8, eq_false c7, eq_true c8, t15, z11]
        exact n
    · have n := nx τ (by unfold pktV; rw [if_neg c]; exact cx_s hv)
      have c7 : ¬ vk v = 7 := fun z => c (Or.inl z)
      have c8 : ¬ vk v = 8 := fun z => c (Or.inr z)
      show okc (RR (lkB tb232) (B232_2, [some (mR (some k)), some (mI ((11 * m : Nat) : Int))], [], τ)) none Z
      rw [e232_2]
      simp only [e232_45, Option.getD_some, Option.bind_some, Option.toList_some, Option.toList_none, List.cons_append, List.nil_append, and_self, and_true, true_and, false_and, and_false, ite_self, not_true_eq_false, not_false_eq_true, reduceIte, Nat.reduceEqDiff, ab_I, ab_L, ab_R, ao_I, ao_L, ao_R, gL_sL, gI_sI, gR_sR, gI_sL, gI_sR, gL_sI, gL_sR, gR_sI, gR_sL, aoS hτ, g3, wF, nl, gSt hτ (show 11 * m < 1188 by omega), Int.toNat_natCast, rd_0 hv, k7, k8, c7, c8, z11]
      exact n
  · intro τ q a
    have hτ := st_r q.2.2 h
    have g3 : gI τ k 3 = (sF S : Int) := (q.1 _ _).trans hS.1.1
    have nl : ((297 * sF S : Nat) : Int) ≤ ((11 * (27 * sF S) : Nat) : Int) := by omega
    simp only [e232_2, Option.getD_some, Option.bind_some, Option.toList_some, Option.toList_none, List.cons_append, List.nil_append, and_self, and_true, true_and, false_and, and_false, ite_self, not_true_eq_false, not_false_eq_true, reduceIte, Nat.reduceEqDiff, ab_I, ab_L, ab_R, ao_I, ao_L, ao_R, gL_sL, gI_sI, gR_sR, gI_sL, gI_sR, gL_sI, gL_sR, gR_sI, gR_sL, aoS hτ, g3, wF_27 h4, nl]
    exact okc_s ⟨CSt_all (fun f => rfl) hS q a, q⟩
/-- a packet's bytes -/
theorem T231 {o : Int} (h : isSt σ k) (hS : CSt σ k S) (h4 : sF S ≤ 4) (hX : okX S) (ht : -2147483648 ≤ t ∧ t < 2147483648) (ho : -100000 ≤ o ∧ o < 100000) : okc (MM 231 [mR (some k), mI t, mL (iL o)] σ) none (fun τ => CSt τ k (allV S (rchV t o)) ∧ crq τ σ k) := by
  rw [M231, e231_0]
  have key := loopP (σ := σ) (k := k) (n := 27 * sF S) (P := plX S) (g := rchV t o) (Q := fun τ => CSt τ k (allV S (rchV t o)) ∧ crq τ σ k) (R := fun m τ => RR (lkB tb231) (B231_3, [some (mR (some k)), some (mI t), some (mL (iL o)), none, some (mI ((11 * m : Nat) : Int))], [], τ)) ?_ ?_ (CSt_al hS)
  · exact key
  · intro m τ hm q hv Z nx
    have hτ := st_r q.2.2 h
    have g3 : gI τ k 3 = (sF S : Int) := (q.1 _ _).trans hS.1.1
    have b := hX m hm
    have cv := (hX m hm).2.2.2.2.2
    have rv := (hX m hm).2.2.2.2.1.2
    have l : 11 * m + 11 ≤ 1188 := by omega
    generalize plX S m = v at *
    have k7 : (iL (vk v) = iL 7) = (vk v = 7) := iL_e (by have := b.1; omega) (by decide)
    have kt : (iL (vt v) = iL t) = (vt v = t) := iL_e (by have := b.2.1; omega) ht
    have z11 := w11 (show m < 1000 by omega)
    have nl := le_27 hm
    have wF := wF_27 h4
    have w10 : w32 (((11 * m : Nat) : Int) + 10) = ((11 * m + 10 : Nat) : Int) := w_pl (pl := 11 * m) (c := 10) (by omega)
    have w9 : w32 (((11 * m : Nat) : Int) + 9) = ((11 * m + 9 : Nat) : Int) := w_pl (pl := 11 * m) (c := 9) (by omega)
    by_cases c7 : vk v = 7
    · by_cases ct : vt v = t
      · have r0 := cv.2.2.2.2.2 c7
        have k0 : ¬ vk v = 0 := by omega
        have rd : gL τ (k + 1 + 0) (11 * m + 9) = iL (vr v) := by rw [rd_9 hv cv, if_neg k0]
        have sm : smax (iL (vr v)) (iL o) = iL (if vr v < o then o else vr v) := by
          unfold smax
          rw [iLt (by omega) (by omega), iLt (by omega) (by omega)]
          split <;> split <;> first | rfl | (exfalso; omega)
        have er : rchV t o v = vR v (if vr v < o then o else vr v) := by
          unfold rchV
          by_cases lo : vr v < o
          · rw [if_pos ⟨c7, ct, lo⟩, if_pos lo]
          · rw [if_neg (fun z => lo z.2.2), if_neg lo]
        have n := nx (sL τ (k + 1 + 0) (11 * m + 9) (iL (if vr v < o then o else vr v))) (by
          rw [er]
          refine ⟨fun _ _ => rfl, fun k' s p => ?_, rfl, fun i hi => ?_⟩
          · rw [gL_sL, if_neg (by omega)]
          · rw [gL_sL]
            by_cases i9 : i = 9
            · rw [if_pos ⟨rfl, by omega⟩, i9]
              show _ = (if vk v = 0 then 0#64 else iL (if vr v < o then o else vr v))
              rw [if_neg k0]
            · rw [if_neg (by omega), hv i hi]
              unfold enV
              rw [if_neg i9, if_neg i9, if_neg k0]
              show _ = if i = 0 then iL (vk v) else if i = 1 then (if vk v = 0 then iL (if vr v < o then o else vr v) else jV (vn v)) else _
              rw [if_neg k0])
        have t71 := T571 (σ := τ) (x0 := iL (vr v)) (x2 := iL o)
        rw [sm] at t71
        show okc (RR (lkB tb231) (B231_3, [some (mR (some k)), some (mI t), some (mL (iL o)), none, some (mI ((11 * m : Nat) : Int))], [], τ)) none Z
        rw [e231_3]
        simp only [e231_69, e231_70, Option.getD_some, Option.bind_some, Option.toList_some, Option.toList_none, List.cons_append, List.nil_append, and_self, and_true, true_and, false_and, and_false, ite_self, not_true_eq_false, not_false_eq_true, reduceIte, Nat.reduceEqDiff, ab_I, ab_L, ab_R, ao_I, ao_L, ao_R, gL_sL, gI_sI, gR_sR, gI_sL, gI_sR, gL_sI, gL_sR, gR_sI, gR_sL, aoS hτ, g3, wF, nl, gSt hτ (show 11 * m < 1188 by omega), gSt hτ (show 11 * m + 10 < 1188 by omega), gSt hτ (show 11 * m + 9 < 1188 by omega), w10, w9, Int.toNat_natCast, rd_0 hv, rd_10 hv, rd, k7, kt, eq_true c7, eq_true ct, t71, z11]
        exact n
      · have n := nx τ (by unfold rchV; rw [if_neg (fun z => ct z.2.1)]; exact cx_s hv)
        show okc (RR (lkB tb231) (B231_3, [some (mR (some k)), some (mI t), some (mL (iL o)), none, some (mI ((11 * m : Nat) : Int))], [], τ)) none Z
        rw [e231_3]
        simp only [e231_70, Option.getD_some, Option.bind_some, Option.toList_some, Option.toList_none, List.cons_append, List.nil_append, and_self, and_true, true_and, false_and, and_false, ite_self, not_true_eq_false, not_false_eq_true, reduceIte, Nat.reduceEqDiff, ab_I, ab_L, ab_R, ao_I, ao_L, ao_R, gL_sL, gI_sI, gR_sR, gI_sL, gI_sR, gL_sI, gL_sR, gR_sI, gR_sL, aoS hτ, g3, wF, nl, gSt hτ (show 11 * m < 1188 by omega), gSt hτ (show 11 * m + 10 < 1188 by omega), w10, Int.toNat_natCast, rd_0 hv, rd_10 hv, k7, kt, eq_true c7, ct, z11]
        exact n
    · have n := nx τ (by unfold rchV; rw [if_neg (fun z => c7 z.1)]; exact cx_s hv)
      show okc (RR (lkB tb231) (B231_3, [some (mR (some k)), some (mI t), some (mL (iL o)), none, some (mI ((11 * m : Nat) : Int))], [], τ)) none Z
      rw [e231_3]
      simp only [e231_70, Option.getD_some, Option.bind_some, Option.toList_some, Option.toList_none, List.cons_append, List.nil_append, and_self, and_true, true_and, false_and, and_false, ite_self, not_true_eq_false, not_false_eq_true, reduceIte, Nat.reduceEqDiff, ab_I, ab_L, ab_R, ao_I, ao_L, ao_R, gL_sL, gI_sI, gR_sR, gI_sL, gI_sR, gL_sI, gL_sR, gR_sI, gR_sL, aoS hτ, g3, wF, nl, gSt hτ (show 11 * m < 1188 by omega), Int.toNat_natCast, rd_0 hv, k7, c7, z11]
      exact n
  · intro τ q a
    have hτ := st_r q.2.2 h
    have g3 : gI τ k 3 = (sF S : Int) := (q.1 _ _).trans hS.1.1
    have nl : ((297 * sF S : Nat) : Int) ≤ ((11 * (27 * sF S) : Nat) : Int) := by omega
    simp only [e231_3, Option.getD_some, Option.bind_some, Option.toList_some, Option.toList_none, List.cons_append, List.nil_append, and_self, and_true, true_and, false_and, and_false, ite_self, not_true_eq_false, not_false_eq_true, reduceIte, Nat.reduceEqDiff, ab_I, ab_L, ab_R, ao_I, ao_L, ao_R, gL_sL, gI_sI, gR_sR, gI_sL, gI_sR, gL_sI, gL_sR, gR_sI, gR_sL, aoS hτ, g3, wF_27 h4, nl]
    exact okc_s ⟨CSt_all (fun f => if_neg (fun z => absurd (show (3 : Int) = 7 from z.1) (by decide))) hS q a, q⟩
/-- one more is held -/
theorem T228 (h : isSt σ k) (hS : CSt σ k S) (hn : (sH S).length < 64) : okc (MM 228 [mR (some k), mI t] σ) (some (mI 1)) (fun τ => CSt τ k (sF S, sV S, sB S, sH S ++ [t]) ∧ chq τ σ k) := by
  obtain ⟨⟨f3, f4⟩, v1, v2, v3, v4, v5⟩ := hS
  have lt : ((sH S).length : Int) < 64 := by omega
  have ab3 : ab σ 3 (k + 1 + 2) ((sH S).length : Int) = True := eq_true ((abH h (i := ((sH S).length : Int))).mpr ⟨Int.natCast_nonneg _, lt⟩).2
  have w := w32_s (m := (sH S).length) (by omega)
  have ne : ¬ (k = k + 1 + 2) := by omega
  refine okc_o (τ := sI (sI σ (k + 1 + 2) (sH S).length t) k 4 (((sH S).length + 1 : Nat) : Int)) ?_ ⟨⟨⟨?_, ?_⟩, v1, v2, v3, fun f h1 h2 => ?_, fun j hj => ?_⟩, fun k' s p q => ?_, fun _ _ => rfl, rfl⟩
  · simp only [M228, e228_0, Option.getD_some, Option.bind_some, Option.toList_some, Option.toList_none, List.cons_append, List.nil_append, and_self, and_true, true_and, false_and, and_false, ite_self, not_true_eq_false, not_false_eq_true, reduceIte, Nat.reduceEqDiff, ab_I, ab_L, ab_R, ao_I, ao_L, ao_R, gL_sL, gI_sI, gR_sR, gI_sL, gI_sR, gL_sI, gL_sR, gR_sI, gR_sL, aoS h, f4, lt, ab3, Option.isSome_some, Int.toNat_natCast, ne, w]
  · rw [gI_sI, if_neg (by omega), gI_sI, if_neg (by omega)]
    exact f3
  · rw [gI_sI, if_pos ⟨rfl, rfl⟩]
    show _ = (((sH S ++ [t]).length : Nat) : Int)
    rw [List.length_append]
    rfl
  · rw [gI_sI, if_neg (by omega), gI_sI, if_neg (by omega)]
    exact v4 f h1 h2
  · have hj : j < (sH S ++ [t]).length := hj
    rw [List.length_append] at hj
    have hj : j < (sH S).length + 1 := hj
    rw [gI_sI, if_neg (by omega), gI_sI]
    show _ = (sH S ++ [t]).getD j 0
    by_cases e : j = (sH S).length
    · rw [if_pos ⟨rfl, e⟩, e, getD_end]
    · rw [if_neg (fun z => e z.2), getD_app (by omega)]
      exact v5 j (by omega)
  · rw [gI_sI, if_neg p, gI_sI, if_neg (fun z => q z.1)]
theorem T228n (h : isSt σ k) (hS : CSt σ k S) (hn : (sH S).length = 64) : MM 228 [mR (some k), mI t] σ = some (some (mI 0), σ) := by
  have f4 := hS.1.2
  rw [hn] at f4
  have lt : ¬ ((64 : Nat) : Int) < 64 := by decide
  simp only [M228, e228_0, Option.getD_some, Option.bind_some, Option.toList_some, Option.toList_none, List.cons_append, List.nil_append, and_self, and_true, true_and, false_and, and_false, ite_self, not_true_eq_false, not_false_eq_true, reduceIte, Nat.reduceEqDiff, ab_I, ab_L, ab_R, ao_I, ao_L, ao_R, gL_sL, gI_sI, gR_sR, gI_sL, gI_sR, gL_sI, gL_sR, gR_sI, gR_sL, aoS h, f4, lt]
/-- no longer held -/
theorem T229 (h : isSt σ k) (hS : CSt σ k S) (hH : (sH S).length ≤ 64) : okc (MM 229 [mR (some k), mI t] σ) none (fun τ => CSt τ k (relH S t) ∧ chq τ σ k) := by
  obtain ⟨⟨f3, f4⟩, v1, v2, v3, v4, v5⟩ := hS
  obtain ⟨p, hp⟩ : ∃ p : Int → Bool, p = fun h => decide (¬ h = t) := ⟨_, rfl⟩
  have key : ∀ (j m : Nat) (τ : MS), j + m = (sH S).length → (∀ i, i < ((sH S).take m |>.filter p).length → gI τ (k + 1 + 2) i = ((sH S).take m |>.filter p).getD i 0) → (∀ i, m ≤ i → gI τ (k + 1 + 2) i = gI σ (k + 1 + 2) i) → (∀ k' s, ¬ k' = k + 1 + 2 → gI τ k' s = gI σ k' s) → (∀ k' s, gL τ k' s = gL σ k' s) → τ.2.2 = σ.2.2 → okc (RR (lkB tb229) (B229_4, [some (mR (some k)), some (mI t), some (mI ((((sH S).take m |>.filter p).length : Nat) : Int)), some (mI (m : Int))], [], τ)) none (fun τ => CSt τ k (relH S t) ∧ chq τ σ k) := by
    intro j
    induction j with
    | zero =>
      intro m τ e a1 a2 a3 a4 a5
      have e : m = (sH S).length := by omega
      have hτ := st_r a5 h
      have l : gI τ k 4 = ((sH S).length : Int) := (a3 _ _ (by omega)).trans f4
      have le : ((sH S).length : Int) ≤ (m : Int) := by omega
      have tk : (sH S).take m = sH S := by rw [e]; exact List.take_length
      rw [tk] at a1 ⊢
      simp only [e229_4, Option.getD_some, Option.bind_some, Option.toList_some, Option.toList_none, List.cons_append, List.nil_append, and_self, and_true, true_and, false_and, and_false, ite_self, not_true_eq_false, not_false_eq_true, reduceIte, Nat.reduceEqDiff, ab_I, ab_L, ab_R, ao_I, ao_L, ao_R, gL_sL, gI_sI, gR_sR, gI_sL, gI_sR, gL_sI, gL_sR, gR_sI, gR_sL, aoS hτ, l, le]
      refine okc_s ⟨⟨⟨?_, ?_⟩, fun f r hf hr i hi => ?_, fun f hf i hi => ?_, fun f q hf hq i hi => ?_, fun f h1 h2 => ?_, fun i hi => ?_⟩, fun k' s q1 q2 => ?_, a4, a5⟩
      · rw [gI_sI, if_neg (by omega), a3 _ _ (by omega)]
        exact f3
      · rw [gI_sI, if_pos ⟨rfl, rfl⟩, hp]
        rfl
      · rw [gL_sI, a4]
        exact v1 f r hf hr i hi
      · rw [gL_sI, a4]
        exact v2 f hf i hi
      · rw [gL_sI, a4]
        exact v3 f q hf hq i hi
      · rw [gI_sI, if_neg (by omega), a3 _ _ (by omega)]
        exact v4 f h1 h2
      · rw [gI_sI, if_neg (by omega)]
        rw [hp] at a1
        exact a1 i hi
      · rw [gI_sI, if_neg q1]
        exact a3 k' s q2
    | succ j ih =>
      intro m τ e a1 a2 a3 a4 a5
      have hτ := st_r a5 h
      have lm : m < (sH S).length := by omega
      have l : gI τ k 4 = ((sH S).length : Int) := (a3 _ _ (by omega)).trans f4
      have hm : gI τ (k + 1 + 2) m = (sH S).getD m 0 := by
        rw [a2 m (Nat.le_refl _)]
        exact v5 m lm
      have ls : ((sH S).take m |>.filter p).length ≤ m := by
        have := List.length_filter_le p ((sH S).take m)
        rw [List.length_take] at this
        omega
      have fs := fil_s (p := p) lm
      have e1 : j + (m + 1) = (sH S).length := by omega
      have nl : ¬ (((sH S).length : Nat) : Int) ≤ (m : Int) := by omega
      have c6 : ((sH S).take m |>.filter p).length < 64 := by omega
      generalize eL : ((sH S).take m |>.filter p) = L at *
      have b1 : (Option.isSome (some (k + 1 + 2)) = true ∧ ab τ 3 (k + 1 + 2) (m : Int)) = True := eq_true ((abH hτ).mpr ⟨Int.natCast_nonneg _, Int.ofNat_lt.mpr (Nat.lt_of_lt_of_le lm hH)⟩)
      have b2' : (Option.isSome (some (k + 1 + 2)) = true ∧ ab τ 3 (k + 1 + 2) (L.length : Int)) = True := eq_true ((abH hτ).mpr ⟨Int.natCast_nonneg _, Int.ofNat_lt.mpr c6⟩)
      have m1 : m < 100000 := Nat.lt_of_lt_of_le lm (Nat.le_trans hH (by decide))
      have m2 : L.length < 100000 := Nat.lt_of_lt_of_le c6 (by decide)
      by_cases q : (sH S).getD m 0 = t
      · have pf : ¬ p ((sH S).getD m 0) = true := by rw [hp, q]; simp
        rw [if_neg pf, List.append_nil] at fs
        have := ih (m + 1) τ e1 (by rw [fs]; exact a1) (fun i hi => a2 i (Nat.le_of_succ_le hi)) a3 a4 a5
        rw [fs] at this
        rw [e229_4]
        simp only [e229_37, Option.getD_some, Option.bind_some, Option.toList_some, Option.toList_none, List.cons_append, List.nil_append, and_self, and_true, true_and, false_and, and_false, ite_self, not_true_eq_false, not_false_eq_true, reduceIte, Nat.reduceEqDiff, ab_I, ab_L, ab_R, ao_I, ao_L, ao_R, gL_sL, gI_sI, gR_sR, gI_sL, gI_sR, gL_sI, gL_sR, gR_sI, gR_sL, aoS hτ, l, nl, b1, Int.toNat_natCast, hm, eq_true q, w32_s m1]
        exact this
      · have pt : p ((sH S).getD m 0) = true := by rw [hp]; exact decide_eq_true q
        rw [if_pos pt] at fs
        have len : L.length + 1 = ((sH S).take (m + 1) |>.filter p).length := by
          rw [fs, List.length_append]
          rfl
        rw [e229_4]
        simp only [e229_37, Option.getD_some, Option.bind_some, Option.toList_some, Option.toList_none, List.cons_append, List.nil_append, and_self, and_true, true_and, false_and, and_false, ite_self, not_true_eq_false, not_false_eq_true, reduceIte, Nat.reduceEqDiff, ab_I, ab_L, ab_R, ao_I, ao_L, ao_R, gL_sL, gI_sI, gR_sR, gI_sL, gI_sR, gL_sI, gL_sR, gR_sI, gR_sL, aoS hτ, l, nl, b1, b2', Int.toNat_natCast, hm, eq_false q, w32_s m1, w32_s m2]
        rw [len]
        refine ih (m + 1) _ e1 (fun i hi => ?_) (fun i hi => ?_) (fun k' s r => ?_) a4 a5
        · rw [fs] at hi ⊢
          rw [List.length_append] at hi
          have hi : i < L.length + 1 := hi
          rw [gI_sI]
          by_cases z : i = L.length
          · rw [if_pos ⟨rfl, z⟩, z, getD_end]
          · have i2 : i < L.length := Nat.lt_of_le_of_ne (Nat.le_of_lt_succ hi) z
            rw [if_neg (fun y => z y.2), getD_app i2]
            exact a1 i i2
        · have i3 : ¬ (k + 1 + 2 = k + 1 + 2 ∧ i = L.length) := fun y => absurd (Nat.le_trans hi (Nat.le_of_eq y.2)) (Nat.not_le_of_lt (Nat.lt_succ_of_le ls))
          rw [gI_sI, if_neg i3]
          exact a2 i (Nat.le_of_succ_le hi)
        · rw [gI_sI, if_neg (fun y => r y.1)]
          exact a3 k' s r
  rw [M229, e229_0]
  have := key (sH S).length 0 σ (by omega) (fun i hi => by simp at hi) (fun _ _ => rfl) (fun _ _ _ => rfl) (fun _ _ => rfl) rfl
  exact this
theorem st_h {S : ST} (q : chq τ σ k) (h : isSt σ k) : isSt τ k := st_r q.2.2 h
/-- a record is given back -/
theorem T233 (h : isSt σ k) (hS : CSt σ k S) (h4 : sF S ≤ 4) (hX : okX S) (hH : (sH S).length ≤ 64) (ht : -2147483648 ≤ t ∧ t < 2147483648) : okc (MM 233 [mR (some k), mI t] σ) none (fun τ => CSt τ k (allV (relH S t) (recV t)) ∧ csq τ σ k) := by
  obtain ⟨σ1, e1, c1, q1⟩ := T229 (t := t) h hS hH
  have h1 := st_r q1.2.2 h
  have s7 : MM 233 [mR (some k), mI t] σ = RR (lkB tb233) (B233_7, [some (mR (some k)), some (mI t), some (mI ((11 * 0 : Nat) : Int))], [], σ1) := by
    simp only [M233, e233_0, e233_5, Option.getD_some, Option.bind_some, Option.toList_some, Option.toList_none, List.cons_append, List.nil_append, and_self, and_true, true_and, false_and, and_false, ite_self, not_true_eq_false, not_false_eq_true, reduceIte, Nat.reduceEqDiff, ab_I, ab_L, ab_R, ao_I, ao_L, ao_R, gL_sL, gI_sI, gR_sR, gI_sL, gI_sR, gL_sI, gL_sR, gR_sI, gR_sL, aoS h, e1]
    rfl
  rw [s7]
  have hX : okX (relH S t) := hX
  have h4 : sF (relH S t) ≤ 4 := h4
  have key := loopP (σ := σ1) (k := k) (n := 27 * sF (relH S t)) (P := plX (relH S t)) (g := recV t) (Q := fun τ => CSt τ k (allV (relH S t) (recV t)) ∧ csq τ σ k) (R := fun m τ => RR (lkB tb233) (B233_7, [some (mR (some k)), some (mI t), some (mI ((11 * m : Nat) : Int))], [], τ)) ?_ ?_ (CSt_al c1)
  · exact key
  · intro m τ hm q hv Z nx
    have hτ := st_r q.2.2 h1
    have g3 : gI τ k 3 = (sF (relH S t) : Int) := (q.1 _ _).trans c1.1.1
    have b := hX m hm
    have l : 11 * m + 11 ≤ 1188 := by omega
    generalize plX (relH S t) m = v at *
    have k9 : (iL (vk v) = iL 9) = (vk v = 9) := iL_e (by have := b.1; omega) (by decide)
    have kt : (iL (vt v) = iL t) = (vt v = t) := iL_e (by have := b.2.1; omega) ht
    have z11 := w11 (show m < 1000 by omega)
    have nl := le_27 hm
    have wF := wF_27 h4
    have w10 : w32 (((11 * m : Nat) : Int) + 10) = ((11 * m + 10 : Nat) : Int) := w_pl (pl := 11 * m) (c := 10) (by omega)
    by_cases c9 : vk v = 9
    · by_cases ct : vt v = t
      · obtain ⟨τ', t15, c15, -⟩ := T215 hτ l
        have n := nx τ' (by unfold recV; rw [if_pos ⟨c9, ct⟩]; exact c15)
        show okc (RR (lkB tb233) (B233_7, [some (mR (some k)), some (mI t), some (mI ((11 * m : Nat) : Int))], [], τ)) none Z
        rw [e233_7]
        simp only [e233_52, Option.getD_some, Option.bind_some, Option.toList_some, Option.toList_none, List.cons_append, List.nil_append, and_self, and_true, true_and, false_and, and_false, ite_self, not_true_eq_false, not_false_eq_true, reduceIte, Nat.reduceEqDiff, ab_I, ab_L, ab_R, ao_I, ao_L, ao_R, gL_sL, gI_sI, gR_sR, gI_sL, gI_sR, gL_sI, gL_sR, gR_sI, gR_sL, aoS hτ, g3, wF, nl, gSt hτ (show 11 * m < 1188 by omega), gSt hτ (show 11 * m + 10 < 1188 by omega), w10, Int.toNat_natCast, rd_0 hv, rd_10 hv, k9, kt, eq_true c9, eq_true ct, t15, z11]
        exact n
      · have n := nx τ (by unfold recV; rw [if_neg (fun z => ct z.2)]; exact cx_s hv)
        show okc (RR (lkB tb233) (B233_7, [some (mR (some k)), some (mI t), some (mI ((11 * m : Nat) : Int))], [], τ)) none Z
        rw [e233_7]
        simp only [e233_52, Option.getD_some, Option.bind_some, Option.toList_some, Option.toList_none, List.cons_append, List.nil_append, and_self, and_true, true_and, false_and, and_false, ite_self, not_true_eq_false, not_false_eq_true, reduceIte, Nat.reduceEqDiff, ab_I, ab_L, ab_R, ao_I, ao_L, ao_R, gL_sL, gI_sI, gR_sR, gI_sL, gI_sR, gL_sI, gL_sR, gR_sI, gR_sL, aoS hτ, g3, wF, nl, gSt hτ (show 11 * m < 1188 by omega), gSt hτ (show 11 * m + 10 < 1188 by omega), w10, Int.toNat_natCast, rd_0 hv, rd_10 hv, k9, kt, eq_true c9, ct, z11]
        exact n
    · have n := nx τ (by unfold recV; rw [if_neg (fun z => c9 z.1)]; exact cx_s hv)
      show okc (RR (lkB tb233) (B233_7, [some (mR (some k)), some (mI t), some (mI ((11 * m : Nat) : Int))], [], τ)) none Z
      rw [e233_7]
      simp only [e233_52, Option.getD_some, Option.bind_some, Option.toList_some, Option.toList_none, List.cons_append, List.nil_append, and_self, and_true, true_and, false_and, and_false, ite_self, not_true_eq_false, not_false_eq_true, reduceIte, Nat.reduceEqDiff, ab_I, ab_L, ab_R, ao_I, ao_L, ao_R, gL_sL, gI_sI, gR_sR, gI_sL, gI_sR, gL_sI, gL_sR, gR_sI, gR_sL, aoS hτ, g3, wF, nl, gSt hτ (show 11 * m < 1188 by omega), Int.toNat_natCast, rd_0 hv, k9, c9, z11]
      exact n
  · intro τ q a
    have hτ := st_r q.2.2 h1
    have g3 : gI τ k 3 = (sF (relH S t) : Int) := (q.1 _ _).trans c1.1.1
    have nl : ((297 * sF (relH S t) : Nat) : Int) ≤ ((11 * (27 * sF (relH S t)) : Nat) : Int) := by omega
    simp only [e233_7, Option.getD_some, Option.bind_some, Option.toList_some, Option.toList_none, List.cons_append, List.nil_append, and_self, and_true, true_and, false_and, and_false, ite_self, not_true_eq_false, not_false_eq_true, reduceIte, Nat.reduceEqDiff, ab_I, ab_L, ab_R, ao_I, ao_L, ao_R, gL_sL, gI_sI, gR_sR, gI_sL, gI_sR, gL_sI, gL_sR, gR_sI, gR_sL, aoS hτ, g3, wF_27 h4, nl]
    exact okc_s ⟨CSt_all (fun f => if_neg (fun z => absurd (show (3 : Int) = 9 from z.1) (by decide))) c1 q a, csq_t (csq_c q) (csq_h q1)⟩
/-- what was perhaps 0 is 0, or is not -/
theorem T230 {j : Nat} {z : Int} (h : isSt σ k) (hS : CSt σ k S) (h4 : sF S ≤ 4) (hX : okX S) (hH : (sH S).length ≤ 64) (ht : -2147483648 ≤ t ∧ t < 2147483648) (hj : isNm σ j) (hne : ¬ j = k + 1 + 0) (hz : rC σ j = cstN 0#64) (z01 : z = 0 ∨ z = 1) : okc (MM 230 [mR (some k), mI t, mI z, mR (some j)] σ) none (fun τ => CSt τ k (if z = 1 then relH (allV S (zerV t)) t else allV S (plcV t)) ∧ csq τ σ k) := by
  rw [M230, e230_0]
  have key := loopP (σ := σ) (k := k) (n := 27 * sF S) (P := plX S) (g := if z = 1 then zerV t else plcV t) (Q := fun τ => CSt τ k (if z = 1 then relH (allV S (zerV t)) t else allV S (plcV t)) ∧ csq τ σ k) (R := fun m τ => RR (lkB tb230) (B230_3, [some (mR (some k)), some (mI t), some (mI z), some (mR (some j)), some (mI ((11 * m : Nat) : Int)), none], [], τ)) ?_ ?_ (CSt_al hS)
  · exact key
  · intro m τ hm q hv Z nx
    have hτ := st_r q.2.2 h
    have hjτ : isNm τ j := (kd_r q.2.2).trans hj
    have rj : rC τ j = cstN 0#64 := by
      rw [← hz]
      unfold rC
      rw [q.2.1 _ _ hne, q.2.1 _ _ hne, q.2.1 _ _ hne, q.2.1 _ _ hne, q.2.1 _ _ hne, q.2.1 _ _ hne]
    have g3 : gI τ k 3 = (sF S : Int) := (q.1 _ _).trans hS.1.1
    have b := hX m hm
    have l : 11 * m + 11 ≤ 1188 := by omega
    generalize plX S m = v at *
    have k6 : (iL (vk v) = iL 6) = (vk v = 6) := iL_e (by have := b.1; omega) (by decide)
    have k10 : (iL (vk v) = iL 10) = (vk v = 10) := iL_e (by have := b.1; omega) (by decide)
    have kt : (iL (vt v) = iL t) = (vt v = t) := iL_e (by have := b.2.1; omega) ht
    have z11 := w11 (show m < 1000 by omega)
    have nl := le_27 hm
    have wF := wF_27 h4
    have w10 : w32 (((11 * m : Nat) : Int) + 10) = ((11 * m + 10 : Nat) : Int) := w_pl (pl := 11 * m) (c := 10) (by omega)
    have w8 : w32 (((11 * m : Nat) : Int) + 8) = ((11 * m + 8 : Nat) : Int) := w_pl (pl := 11 * m) (c := 8) (by omega)
    have gd0 := gSt hτ (show 11 * m < 1188 by omega)
    have gd8 := gSt hτ (show 11 * m + 8 < 1188 by omega)
    have gd10 := gSt hτ (show 11 * m + 10 < 1188 by omega)
    by_cases c : isMb v ∧ vt v = t
    · obtain ⟨c, ct⟩ := c
      rcases z01 with z0 | z1
      · have nz : ¬ z = 1 := by omega
        rw [if_neg nz] at nx
        by_cases c6 : vk v = 6
        · obtain ⟨τ', e17, c17⟩ := T217 (kn := 5) (w := vw v) (t := 0) hτ l
          have n := nx τ' (by unfold plcV; rw [if_pos ⟨c, ct⟩, if_pos c6, if_pos c6]; exact c17)
          show okc (RR (lkB tb230) (B230_3, [some (mR (some k)), some (mI t), some (mI z), some (mR (some j)), some (mI ((11 * m : Nat) : Int)), none], [], τ)) none Z
          rw [e230_3]
          simp only [e230_35, e230_72, e230_100, e230_120, e230_123, Option.getD_some, Option.bind_some, Option.toList_some, Option.toList_none, List.cons_append, List.nil_append, and_self, and_true, true_and, false_and, and_false, ite_self, not_true_eq_false, not_false_eq_true, reduceIte, Nat.reduceEqDiff, ab_I, ab_L, ab_R, ao_I, ao_L, ao_R, gL_sL, gI_sI, gR_sR, gI_sL, gI_sR, gL_sI, gL_sR, gR_sI, gR_sL, aoS hτ, g3, wF, nl, gd0, gd8, gd10, w10, w8, Int.toNat_natCast, rd_0 hv, rd_10 hv, rd_8 hv, k6, k10, kt, eq_true c6, eq_true ct, z0, e17, z11, Int.reduceEq]
          rw [z0] at n
          exact okc_q (by repeat (first | exact lq_nil | refine lq_cons (Or.inr rfl) ?_ | refine lq_cons (Or.inl rfl) ?_)) n
        · have c10 : vk v = 10 := by omega
          obtain ⟨τ', e17, c17⟩ := T217 (kn := 9) (w := vw v) (t := t) hτ l
          have n := nx τ' (by unfold plcV; rw [if_pos ⟨c, ct⟩, if_neg c6, if_neg c6]; exact c17)
          show okc (RR (lkB tb230) (B230_3, [some (mR (some k)), some (mI t), some (mI z), some (mR (some j)), some (mI ((11 * m : Nat) : Int)), none], [], τ)) none Z
          rw [e230_3]
          simp only [e230_35, e230_72, e230_100, e230_120, e230_123, Option.getD_some, Option.bind_some, Option.toList_some, Option.toList_none, List.cons_append, List.nil_append, and_self, and_true, true_and, false_and, and_false, ite_self, not_true_eq_false, not_false_eq_true, reduceIte, Nat.reduceEqDiff, ab_I, ab_L, ab_R, ao_I, ao_L, ao_R, gL_sL, gI_sI, gR_sR, gI_sL, gI_sR, gL_sI, gL_sR, gR_sI, gR_sL, aoS hτ, g3, wF, nl, gd0, gd8, gd10, w10, w8, Int.toNat_natCast, rd_0 hv, rd_10 hv, rd_8 hv, k6, k10, kt, eq_false c6, eq_true c10, eq_true ct, z0, e17, z11, Int.reduceEq]
          rw [z0] at n
          exact okc_q (by repeat (first | exact lq_nil | refine lq_cons (Or.inr rfl) ?_ | refine lq_cons (Or.inl rfl) ?_)) n
      · rw [if_pos z1] at nx
        obtain ⟨τ', e18, c18⟩ := T218 (pl := 11 * m) hτ hjτ hne l
        rw [rj] at c18
        have n := nx τ' (by unfold zerV; rw [if_pos ⟨c, ct⟩]; exact c18)
        have nz : ¬ z = 0 := by omega
        by_cases c6 : vk v = 6
        · simp only [e230_3, e230_35, e230_72, e230_83, e230_123, Option.getD_some, Option.bind_some, Option.toList_some, Option.toList_none, List.cons_append, List.nil_append, and_self, and_true, true_and, false_and, and_false, ite_self, not_true_eq_false, not_false_eq_true, reduceIte, Nat.reduceEqDiff, ab_I, ab_L, ab_R, ao_I, ao_L, ao_R, gL_sL, gI_sI, gR_sR, gI_sL, gI_sR, gL_sI, gL_sR, gR_sI, gR_sL, aoS hτ, g3, wF, nl, gd0, gd8, gd10, w10, w8, Int.toNat_natCast, rd_0 hv, rd_10 hv, rd_8 hv, k6, k10, kt, eq_true c6, eq_true ct, nz, e18, z11, Int.reduceEq]
          exact okc_q (by repeat (first | exact lq_nil | refine lq_cons (Or.inr rfl) ?_ | refine lq_cons (Or.inl rfl) ?_)) n
        · have c10 : vk v = 10 := by omega
          show okc (RR (lkB tb230) (B230_3, [some (mR (some k)), some (mI t), some (mI z), some (mR (some j)), some (mI ((11 * m : Nat) : Int)), none], [], τ)) none Z
          rw [e230_3]
          simp only [e230_35, e230_72, e230_83, e230_123, Option.getD_some, Option.bind_some, Option.toList_some, Option.toList_none, List.cons_append, List.nil_append, and_self, and_true, true_and, false_and, and_false, ite_self, not_true_eq_false, not_false_eq_true, reduceIte, Nat.reduceEqDiff, ab_I, ab_L, ab_R, ao_I, ao_L, ao_R, gL_sL, gI_sI, gR_sR, gI_sL, gI_sR, gL_sI, gL_sR, gR_sI, gR_sL, aoS hτ, g3, wF, nl, gd0, gd8, gd10, w10, w8, Int.toNat_natCast, rd_0 hv, rd_10 hv, rd_8 hv, k6, k10, kt, eq_false c6, eq_true c10, eq_true ct, nz, e18, z11, Int.reduceEq]
          exact okc_q (by repeat (first | exact lq_nil | refine lq_cons (Or.inr rfl) ?_ | refine lq_cons (Or.inl rfl) ?_)) n
    · have n := nx τ (by
        split
        · unfold zerV
          rw [if_neg c]
          exact cx_s hv
        · unfold plcV
          rw [if_neg c]
          exact cx_s hv)
      by_cases ct : vt v = t
      · have c6 : ¬ vk v = 6 := fun y => c ⟨Or.inl y, ct⟩
        have c10 : ¬ vk v = 10 := fun y => c ⟨Or.inr y, ct⟩
        show okc (RR (lkB tb230) (B230_3, [some (mR (some k)), some (mI t), some (mI z), some (mR (some j)), some (mI ((11 * m : Nat) : Int)), none], [], τ)) none Z
        rw [e230_3]
        simp only [e230_35, e230_123, Option.getD_some, Option.bind_some, Option.toList_some, Option.toList_none, List.cons_append, List.nil_append, and_self, and_true, true_and, false_and, and_false, ite_self, not_true_eq_false, not_false_eq_true, reduceIte, Nat.reduceEqDiff, ab_I, ab_L, ab_R, ao_I, ao_L, ao_R, gL_sL, gI_sI, gR_sR, gI_sL, gI_sR, gL_sI, gL_sR, gR_sI, gR_sL, aoS hτ, g3, wF, nl, gd0, gd10, w10, Int.toNat_natCast, rd_0 hv, rd_10 hv, k6, k10, kt, eq_false c6, eq_false c10, eq_true ct, z11]
        exact okc_q (by repeat (first | exact lq_nil | refine lq_cons (Or.inr rfl) ?_ | refine lq_cons (Or.inl rfl) ?_)) n
      · by_cases c6 : vk v = 6
        · simp only [e230_3, e230_35, e230_123, Option.getD_some, Option.bind_some, Option.toList_some, Option.toList_none, List.cons_append, List.nil_append, and_self, and_true, true_and, false_and, and_false, ite_self, not_true_eq_false, not_false_eq_true, reduceIte, Nat.reduceEqDiff, ab_I, ab_L, ab_R, ao_I, ao_L, ao_R, gL_sL, gI_sI, gR_sR, gI_sL, gI_sR, gL_sI, gL_sR, gR_sI, gR_sL, aoS hτ, g3, wF, nl, gd0, gd10, w10, Int.toNat_natCast, rd_0 hv, rd_10 hv, k6, k10, kt, eq_true c6, eq_false ct, z11]
          exact okc_q (by repeat (first | exact lq_nil | refine lq_cons (Or.inr rfl) ?_ | refine lq_cons (Or.inl rfl) ?_)) n
        · simp only [e230_3, e230_35, e230_123, Option.getD_some, Option.bind_some, Option.toList_some, Option.toList_none, List.cons_append, List.nil_append, and_self, and_true, true_and, false_and, and_false, ite_self, not_true_eq_false, not_false_eq_true, reduceIte, Nat.reduceEqDiff, ab_I, ab_L, ab_R, ao_I, ao_L, ao_R, gL_sL, gI_sI, gR_sR, gI_sL, gI_sR, gL_sI, gL_sR, gR_sI, gR_sL, aoS hτ, g3, wF, nl, gd0, gd10, w10, Int.toNat_natCast, rd_0 hv, rd_10 hv, k6, k10, kt, eq_false c6, eq_false ct, z11]
          exact okc_q (by repeat (first | exact lq_nil | refine lq_cons (Or.inr rfl) ?_ | refine lq_cons (Or.inl rfl) ?_)) n
  · intro τ q a
    have hτ := st_r q.2.2 h
    have g3 : gI τ k 3 = (sF S : Int) := (q.1 _ _).trans hS.1.1
    have nl : ((297 * sF S : Nat) : Int) ≤ ((11 * (27 * sF S) : Nat) : Int) := by omega
    rcases z01 with z0 | z1
    · have nz : ¬ z = 1 := by omega
      rw [if_neg nz] at a
      simp only [e230_3, e230_138, Option.getD_some, Option.bind_some, Option.toList_some, Option.toList_none, List.cons_append, List.nil_append, and_self, and_true, true_and, false_and, and_false, ite_self, not_true_eq_false, not_false_eq_true, reduceIte, Nat.reduceEqDiff, ab_I, ab_L, ab_R, ao_I, ao_L, ao_R, gL_sL, gI_sI, gR_sR, gI_sL, gI_sR, gL_sI, gL_sR, gR_sI, gR_sL, aoS hτ, g3, wF_27 h4, nl, eq_true z0]
      refine okc_s ⟨?_, csq_c q⟩
      rw [if_neg nz]
      exact CSt_all (S := S) (g := plcV t) (fun f => if_neg (fun y => by have y : ((3 : Int) = 6 ∨ (3 : Int) = 10) := y.1; omega)) hS q a
    · have nz : ¬ z = 0 := by omega
      rw [if_pos z1] at a
      have c1 := CSt_all (S := S) (g := zerV t) (fun f => if_neg (fun y => by have y : ((3 : Int) = 6 ∨ (3 : Int) = 10) := y.1; omega)) hS q a
      obtain ⟨τ2, e2, c2, q2⟩ := T229 (t := t) hτ c1 hH
      simp only [e230_3, e230_138, Option.getD_some, Option.bind_some, Option.toList_some, Option.toList_none, List.cons_append, List.nil_append, and_self, and_true, true_and, false_and, and_false, ite_self, not_true_eq_false, not_false_eq_true, reduceIte, Nat.reduceEqDiff, ab_I, ab_L, ab_R, ao_I, ao_L, ao_R, gL_sL, gI_sI, gR_sR, gI_sL, gI_sR, gL_sI, gL_sR, gR_sI, gR_sL, aoS hτ, g3, wF_27 h4, nl, nz, e2]
      refine okc_s ⟨?_, csq_t (csq_h q2) (csq_c q)⟩
      rw [if_pos z1]
      exact c2
end CAL
