/-! ===== the class's states: a VALUE changes ===== -/
section CST6
variable {σ τ : MS} {k r f q : Nat} {S : ST} {v : VL}
theorem cx_o {pl pl' : Nat} {u : VL} (h : cxV τ σ k pl v) (hd : pl' + 11 ≤ pl ∨ pl + 11 ≤ pl') (a : cAt σ k pl' u) : cAt τ k pl' u := fun i hi => by
  rw [h.2.1 _ _ (by omega)]
  exact a i hi
theorem CSt_w (hF : 1 ≤ sF S ∧ sF S ≤ 4) (h : CSt σ k S) (hr : r ≤ 9) (c : cxV τ σ k (297 * (sF S - 1) + 11 * r) v) : CSt τ k (wV S r v) := by
  obtain ⟨⟨f3, f4⟩, v1, v2, v3, v4, v5⟩ := h
  refine ⟨⟨(c.1 _ _).trans f3, (c.1 _ _).trans f4⟩, fun f' r' hf hr' => ?_, fun f' hf => ?_, fun f' q' hf hq => ?_, fun f' h1 h2 => (c.1 _ _).trans (v4 f' h1 h2), fun j hj => (c.1 _ _).trans (v5 j hj)⟩
  · have hf : f' < sF S := hf
    show cAt τ k (297 * f' + 11 * r') (if 26 * f' + r' = 26 * (sF S - 1) + r then v else sV S (26 * f' + r'))
    by_cases e : f' = sF S - 1 ∧ r' = r
    · obtain ⟨e1, e2⟩ := e
      rw [e1, e2, if_pos rfl]
      exact c.2.2.2
    · rw [if_neg (by omega)]
      exact cx_o c (by omega) (v1 f' r' hf hr')
  · have hf : f' < sF S := hf
    exact cx_o c (by omega) (v2 f' hf)
  · have hf : f' < sF S := hf
    show cAt τ k (297 * f' + 121 + 11 * q') (if 26 * f' + 10 + q' = 26 * (sF S - 1) + r then v else sV S (26 * f' + 10 + q'))
    rw [if_neg (by omega)]
    exact cx_o c (by omega) (v3 f' q' hf hq)
theorem CSt_p (hF : sF S ≤ 4) (h : CSt σ k S) (hf : f < sF S) (hq : q < 16) (c : cxV τ σ k (297 * f + 121 + 11 * q) v) : CSt τ k (sF S, upV (sV S) (26 * f + 10 + q) v, sB S, sH S) := by
  obtain ⟨⟨f3, f4⟩, v1, v2, v3, v4, v5⟩ := h
  refine ⟨⟨(c.1 _ _).trans f3, (c.1 _ _).trans f4⟩, fun f' r' hf' hr' => ?_, fun f' hf' => ?_, fun f' q' hf' hq' => ?_, fun f' h1 h2 => (c.1 _ _).trans (v4 f' h1 h2), fun j hj => (c.1 _ _).trans (v5 j hj)⟩
  · have hf' : f' < sF S := hf'
    show cAt τ k (297 * f' + 11 * r') (if 26 * f' + r' = 26 * f + 10 + q then v else sV S (26 * f' + r'))
    rw [if_neg (by omega)]
    exact cx_o c (by omega) (v1 f' r' hf' hr')
  · have hf' : f' < sF S := hf'
    exact cx_o c (by omega) (v2 f' hf')
  · have hf' : f' < sF S := hf'
    show cAt τ k (297 * f' + 121 + 11 * q') (if 26 * f' + 10 + q' = 26 * f + 10 + q then v else sV S (26 * f' + 10 + q'))
    by_cases e : f' = f ∧ q' = q
    · obtain ⟨e1, e2⟩ := e
      rw [e1, e2, if_pos rfl]
      exact c.2.2.2
    · rw [if_neg (by omega)]
      exact cx_o c (by omega) (v3 f' q' hf' hq')
/-- only the row of the state at cell k has changed -/
def crq (τ σ : MS) (k : Nat) : Prop := (∀ k' s, gI τ k' s = gI σ k' s) ∧ (∀ k' s, ¬ k' = k + 1 + 0 → gL τ k' s = gL σ k' s) ∧ τ.2.2 = σ.2.2
theorem crq_r (σ : MS) (k : Nat) : crq σ σ k := ⟨fun _ _ => rfl, fun _ _ _ => rfl, rfl⟩
theorem crq_t {a b c : MS} (h1 : crq a b k) (h2 : crq b c k) : crq a c k := ⟨fun k' s => (h1.1 k' s).trans (h2.1 k' s), fun k' s p => (h1.2.1 k' s p).trans (h2.2.1 k' s p), h1.2.2.trans h2.2.2⟩
theorem crq_c {pl : Nat} (h : cxV τ σ k pl v) : crq τ σ k := ⟨h.1, fun k' s p => h.2.1 k' s (fun z => p z.1), h.2.2.1⟩
/-- r1 .. r5 become UNSET -/
theorem T221 (h : isSt σ k) (hF : 1 ≤ sF S ∧ sF S ≤ 4) (hS : CSt σ k S) : okc (MM 221 [mR (some k)] σ) none (fun τ => CSt τ k (unsA S) ∧ crq τ σ k) := by
  have step : ∀ (r : Nat) (T : ST) (τ : MS), r ≤ 5 → sF T = sF S → CSt τ k T → crq τ σ k → ∀ P : MS → Prop, (∀ τ', CSt τ' k (wV T r unsV) → crq τ' σ k → okc (RR (lkB tb221) (B221_2, [some (mR (some k)), some (mI ((r + 1 : Nat) : Int))], [], τ')) none P) → okc (RR (lkB tb221) (B221_2, [some (mR (some k)), some (mI (r : Int))], [], τ)) none P := by
    intro r T τ hr hT cT cq P nx
    have hτ := st_r cq.2.2 h
    have nl : ¬ 5 < (r : Int) := by omega
    have r6 : r < 100000 := by omega
    have t2 := T212 (r := r) hτ cT.1.1 (by omega) (by omega)
    obtain ⟨τ', e, c, -⟩ := T215 hτ (pl := 297 * (sF T - 1) + 11 * r) (by omega)
    have n := nx τ' (CSt_w (by omega) cT (by omega) c) (crq_t (crq_c c) cq)
    rw [e221_2]
    simp only [e221_13, e221_16, Option.getD_some, Option.bind_some, Option.toList_some, Option.toList_none, List.cons_append, List.nil_append, and_self, and_true, true_and, false_and, and_false, ite_self, not_true_eq_false, not_false_eq_true, reduceIte, Nat.reduceEqDiff, ab_I, ab_L, ab_R, ao_I, ao_L, ao_R, gL_sL, gI_sI, gR_sR, gI_sL, gI_sR, gL_sI, gL_sR, gR_sI, gR_sL, nl, aoS hτ, t2, e, w32_s r6]
    exact n
  have e5 : ∀ τ, CSt τ k (wV (wV (wV (wV (wV S 1 unsV) 2 unsV) 3 unsV) 4 unsV) 5 unsV) → CSt τ k (unsA S) := fun τ c => by
    have es : wV (wV (wV (wV (wV S 1 unsV) 2 unsV) 3 unsV) 4 unsV) 5 unsV = unsA S := by
      refine st_ext rfl (fun j => ?_) rfl rfl
      show (if j = 26 * (sF S - 1) + 5 then unsV else if j = 26 * (sF S - 1) + 4 then unsV else if j = 26 * (sF S - 1) + 3 then unsV else if j = 26 * (sF S - 1) + 2 then unsV else if j = 26 * (sF S - 1) + 1 then unsV else sV S j) = (if 26 * (sF S - 1) + 1 ≤ j ∧ j ≤ 26 * (sF S - 1) + 5 then unsV else sV S j)
      by_cases c : 26 * (sF S - 1) + 1 ≤ j ∧ j ≤ 26 * (sF S - 1) + 5
      · rw [if_pos c]
        repeat' split
        all_goals first | rfl | (exfalso; omega)
      · rw [if_neg c, if_neg (by omega), if_neg (by omega), if_neg (by omega), if_neg (by omega), if_neg (by omega)]
    rwa [es] at c
  rw [M221, e221_0]
  refine step 1 S σ (by omega) rfl hS (crq_r _ _) _ fun τ1 c1 q1 => ?_
  refine step 2 (wV S 1 unsV) τ1 (by omega) rfl c1 q1 _ fun τ2 c2 q2 => ?_
  refine step 3 (wV (wV S 1 unsV) 2 unsV) τ2 (by omega) rfl c2 q2 _ fun τ3 c3 q3 => ?_
  refine step 4 (wV (wV (wV S 1 unsV) 2 unsV) 3 unsV) τ3 (by omega) rfl c3 q3 _ fun τ4 c4 q4 => ?_
  refine step 5 (wV (wV (wV (wV S 1 unsV) 2 unsV) 3 unsV) 4 unsV) τ4 (by omega) rfl c4 q4 _ fun τ5 c5 q5 => ?_
  rw [e221_2, if_pos (by decide)]
  exact okc_s ⟨e5 _ c5, q5⟩
end CST6
