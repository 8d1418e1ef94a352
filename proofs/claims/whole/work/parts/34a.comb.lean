/-! ===== the class's combine ===== -/
def cmbN (c off : Int) (m : Nat) (x y : N6) : N6 :=
  if c = 0 then addN x y
  else if c = 16 then subN x y
  else if c = 32 then mulN x y
  else if c = 48 then divN x y
  else if c = 64 then orN x y
  else if c = 80 then andN x y
  else if c = 96 then (if isC y then shlN x ((jV y).toNat % m) else anyN)
  else if c = 112 then (if isC y then shrN x ((jV y).toNat % m) else shrA x)
  else if c = 144 then remN x y
  else if c = 160 then xorN x y
  else if c = 176 then sgnN off.toNat
  else (if isC y then sarN x ((jV y).toNat % m) else sarA x)
section CMB
variable {k j i : Nat} {σ : MS}
set_option maxHeartbeats 16000000 in
theorem L77 {op off z : Int} {c : Int} {n : Nat} (h0 : 0 ≤ op) (h1 : op < 256) (ec : op / 16 * 16 = c) (hk : isNm σ k) (hj : isNm σ j) (hi : isNm σ i) (h : ¬ j = k) (h2 : ¬ i = k) (hm : 0 < n ∧ n ≤ 64) (hz : iAnd (lI (jV (rC σ i))) z = (((jV (rC σ i)).toNat % n : Nat) : Int)) (hc : c = 0 ∨ c = 16 ∨ c = 32 ∨ c = 48 ∨ c = 64 ∨ c = 80 ∨ c = 96 ∨ c = 112 ∨ c = 144 ∨ c = 160 ∨ c = 176 ∨ c = 192) (hq : c = 32 ∨ c = 48 ∨ c = 144 → ¬ (isC (rC σ j) ∧ isC (rC σ i))) (ho : c = 176 → 1 ≤ off ∧ off ≤ 64) : RR (lkB tb77) (B77_22, [some (mR (some k)), some (mI op), some (mI off), some (mR (some j)), some (mR (some i)), none], [mI z, mI (lI (gL σ i 0))], σ) = some (none, wC σ k (cmbN c off n (rC σ j) (rC σ i))) := by
  have em : iAnd op 240 = c := (mk_at h0 h1).1.trans ec
  have hn : (jV (rC σ i)).toNat % n < 64 := by
    have := Nat.mod_lt (jV (rC σ i)).toNat hm.1
    omega
  have hz' : iAnd (lI (gL σ i 0)) z = (((jV (rC σ i)).toNat % n : Nat) : Int) := hz
  rcases hc with rfl | rfl | rfl | rfl | rfl | rfl | rfl | rfl | rfl | rfl | rfl | rfl
  · simp only [e77_0, e77_22, e77_135, e77_145, e77_155, e77_165, e77_175, e77_185, e77_205, e77_210, e77_230, e77_235, e77_245, e77_289, e77_293, e77_301, e77_321, e77_326, Option.getD_some, Option.bind_some, Option.toList_some, Option.toList_none, List.cons_append, List.nil_append, and_self, and_true, true_and, false_and, and_false, ite_self, not_true_eq_false, not_false_eq_true, reduceIte, Nat.reduceEqDiff, ab_I, ab_L, ab_R, ao_I, ao_L, ao_R, gL_sL, gI_sI, gR_sR, gI_sL, gI_sR, gL_sI, gL_sR, gR_sI, gR_sL, em, Int.reduceEq, aoN hk, T78 hk hj hi h h2]
    rfl
  · simp only [e77_0, e77_22, e77_135, e77_145, e77_155, e77_165, e77_175, e77_185, e77_205, e77_210, e77_230, e77_235, e77_245, e77_289, e77_293, e77_301, e77_321, e77_326, Option.getD_some, Option.bind_some, Option.toList_some, Option.toList_none, List.cons_append, List.nil_append, and_self, and_true, true_and, false_and, and_false, ite_self, not_true_eq_false, not_false_eq_true, reduceIte, Nat.reduceEqDiff, ab_I, ab_L, ab_R, ao_I, ao_L, ao_R, gL_sL, gI_sI, gR_sR, gI_sL, gI_sR, gL_sI, gL_sR, gR_sI, gR_sL, em, Int.reduceEq, aoN hk, T79 hk hj hi h h2]
    rfl
  · simp only [e77_0, e77_22, e77_135, e77_145, e77_155, e77_165, e77_175, e77_185, e77_205, e77_210, e77_230, e77_235, e77_245, e77_289, e77_293, e77_301, e77_321, e77_326, Option.getD_some, Option.bind_some, Option.toList_some, Option.toList_none, List.cons_append, List.nil_append, and_self, and_true, true_and, false_and, and_false, ite_self, not_true_eq_false, not_false_eq_true, reduceIte, Nat.reduceEqDiff, ab_I, ab_L, ab_R, ao_I, ao_L, ao_R, gL_sL, gI_sI, gR_sR, gI_sL, gI_sR, gL_sI, gL_sR, gR_sI, gR_sL, em, Int.reduceEq, aoN hk, T81 hk hj hi h h2 (hq (Or.inl rfl))]
    rfl
  · simp only [e77_0, e77_22, e77_135, e77_145, e77_155, e77_165, e77_175, e77_185, e77_205, e77_210, e77_230, e77_235, e77_245, e77_289, e77_293, e77_301, e77_321, e77_326, Option.getD_some, Option.bind_some, Option.toList_some, Option.toList_none, List.cons_append, List.nil_append, and_self, and_true, true_and, false_and, and_false, ite_self, not_true_eq_false, not_false_eq_true, reduceIte, Nat.reduceEqDiff, ab_I, ab_L, ab_R, ao_I, ao_L, ao_R, gL_sL, gI_sI, gR_sR, gI_sL, gI_sR, gL_sI, gL_sR, gR_sI, gR_sL, em, Int.reduceEq, aoN hk, T82 hk hj hi h h2 (hq (Or.inr (Or.inl rfl)))]
    rfl
  · simp only [e77_0, e77_22, e77_135, e77_145, e77_155, e77_165, e77_175, e77_185, e77_205, e77_210, e77_230, e77_235, e77_245, e77_289, e77_293, e77_301, e77_321, e77_326, Option.getD_some, Option.bind_some, Option.toList_some, Option.toList_none, List.cons_append, List.nil_append, and_self, and_true, true_and, false_and, and_false, ite_self, not_true_eq_false, not_false_eq_true, reduceIte, Nat.reduceEqDiff, ab_I, ab_L, ab_R, ao_I, ao_L, ao_R, gL_sL, gI_sI, gR_sR, gI_sL, gI_sR, gL_sI, gL_sR, gR_sI, gR_sL, em, Int.reduceEq, aoN hk, T84 hk hj hi h h2]
    rfl
  · simp only [e77_0, e77_22, e77_135, e77_145, e77_155, e77_165, e77_175, e77_185, e77_205, e77_210, e77_230, e77_235, e77_245, e77_289, e77_293, e77_301, e77_321, e77_326, Option.getD_some, Option.bind_some, Option.toList_some, Option.toList_none, List.cons_append, List.nil_append, and_self, and_true, true_and, false_and, and_false, ite_self, not_true_eq_false, not_false_eq_true, reduceIte, Nat.reduceEqDiff, ab_I, ab_L, ab_R, ao_I, ao_L, ao_R, gL_sL, gI_sI, gR_sR, gI_sL, gI_sR, gL_sI, gL_sR, gR_sI, gR_sL, em, Int.reduceEq, aoN hk, T85 hk hj hi h h2]
    rfl
  · show _ = some (none, wC σ k (if isC (rC σ i) then shlN (rC σ j) ((jV (rC σ i)).toNat % n) else anyN))
    by_cases y : gL σ i 1 = 0#64
    · rw [if_pos (show isC (rC σ i) from y)]
      simp only [e77_0, e77_22, e77_135, e77_145, e77_155, e77_165, e77_175, e77_185, e77_205, e77_210, e77_230, e77_235, e77_245, e77_289, e77_293, e77_301, e77_321, e77_326, Option.getD_some, Option.bind_some, Option.toList_some, Option.toList_none, List.cons_append, List.nil_append, and_self, and_true, true_and, false_and, and_false, ite_self, not_true_eq_false, not_false_eq_true, reduceIte, Nat.reduceEqDiff, ab_I, ab_L, ab_R, ao_I, ao_L, ao_R, gL_sL, gI_sI, gR_sR, gI_sL, gI_sR, gL_sI, gL_sR, gR_sI, gR_sL, em, Int.reduceEq, aoN hk, aoN hi, eq_true y, hz', T86c hk hj h hn]
    · rw [if_neg (show ¬ isC (rC σ i) from y)]
      simp only [e77_0, e77_22, e77_135, e77_145, e77_155, e77_165, e77_175, e77_185, e77_205, e77_210, e77_230, e77_235, e77_245, e77_289, e77_293, e77_301, e77_321, e77_326, Option.getD_some, Option.bind_some, Option.toList_some, Option.toList_none, List.cons_append, List.nil_append, and_self, and_true, true_and, false_and, and_false, ite_self, not_true_eq_false, not_false_eq_true, reduceIte, Nat.reduceEqDiff, ab_I, ab_L, ab_R, ao_I, ao_L, ao_R, gL_sL, gI_sI, gR_sR, gI_sL, gI_sR, gL_sI, gL_sR, gR_sI, gR_sL, em, Int.reduceEq, aoN hk, aoN hi, y, hz', T86n hk hj]
  · show _ = some (none, wC σ k (if isC (rC σ i) then shrN (rC σ j) ((jV (rC σ i)).toNat % n) else shrA (rC σ j)))
    by_cases y : gL σ i 1 = 0#64
    · rw [if_pos (show isC (rC σ i) from y)]
      simp only [e77_0, e77_22, e77_135, e77_145, e77_155, e77_165, e77_175, e77_185, e77_205, e77_210, e77_230, e77_235, e77_245, e77_289, e77_293, e77_301, e77_321, e77_326, Option.getD_some, Option.bind_some, Option.toList_some, Option.toList_none, List.cons_append, List.nil_append, and_self, and_true, true_and, false_and, and_false, ite_self, not_true_eq_false, not_false_eq_true, reduceIte, Nat.reduceEqDiff, ab_I, ab_L, ab_R, ao_I, ao_L, ao_R, gL_sL, gI_sI, gR_sR, gI_sL, gI_sR, gL_sI, gL_sR, gR_sI, gR_sL, em, Int.reduceEq, aoN hk, aoN hi, eq_true y, hz', T87c hk hj h hn]
    · rw [if_neg (show ¬ isC (rC σ i) from y)]
      simp only [e77_0, e77_22, e77_135, e77_145, e77_155, e77_165, e77_175, e77_185, e77_205, e77_210, e77_230, e77_235, e77_245, e77_289, e77_293, e77_301, e77_321, e77_326, Option.getD_some, Option.bind_some, Option.toList_some, Option.toList_none, List.cons_append, List.nil_append, and_self, and_true, true_and, false_and, and_false, ite_self, not_true_eq_false, not_false_eq_true, reduceIte, Nat.reduceEqDiff, ab_I, ab_L, ab_R, ao_I, ao_L, ao_R, gL_sL, gI_sI, gR_sR, gI_sL, gI_sR, gL_sI, gL_sR, gR_sI, gR_sL, em, Int.reduceEq, aoN hk, aoN hi, y, hz', T87n hk hj h]
  · simp only [e77_0, e77_22, e77_135, e77_145, e77_155, e77_165, e77_175, e77_185, e77_205, e77_210, e77_230, e77_235, e77_245, e77_289, e77_293, e77_301, e77_321, e77_326, Option.getD_some, Option.bind_some, Option.toList_some, Option.toList_none, List.cons_append, List.nil_append, and_self, and_true, true_and, false_and, and_false, ite_self, not_true_eq_false, not_false_eq_true, reduceIte, Nat.reduceEqDiff, ab_I, ab_L, ab_R, ao_I, ao_L, ao_R, gL_sL, gI_sI, gR_sR, gI_sL, gI_sR, gL_sI, gL_sR, gR_sI, gR_sL, em, Int.reduceEq, aoN hk, T83 hk hj hi h h2 (hq (Or.inr (Or.inr rfl)))]
    rfl
  · have key : ∀ u, RR (lkB tb77) (B77_22, [some (mR (some k)), some (mI op), some (mI off), some (mR (some j)), some (mR (some i)), none], [mI z, mI (lI (gL σ i 0))], wC σ k u) = some (none, wC σ k (xorN (rC σ j) (rC σ i))) := by
      intro u
      simp only [e77_0, e77_22, e77_135, e77_145, e77_155, e77_165, e77_175, e77_185, e77_205, e77_210, e77_230, e77_235, e77_245, e77_289, e77_293, e77_301, e77_321, e77_326, Option.getD_some, Option.bind_some, Option.toList_some, Option.toList_none, List.cons_append, List.nil_append, and_self, and_true, true_and, false_and, and_false, ite_self, not_true_eq_false, not_false_eq_true, reduceIte, Nat.reduceEqDiff, ab_I, ab_L, ab_R, ao_I, ao_L, ao_R, gL_sL, gI_sI, gR_sR, gI_sL, gI_sR, gL_sI, gL_sR, gR_sI, gR_sL, em, Int.reduceEq, aoNw hk, aoNw hj, aoNw hi, wC0, wC1, gC0, gC1, gCj0 h, gCj1 h, gCj0 h2, gCj1 h2, iL_m1, xor_all, T64w hk, T65w hk]
      rfl
    have := key (rC σ k)
    rw [wC_eta] at this
    exact this
  · have ob := ho rfl
    have eo : off = ((off.toNat : Nat) : Int) := by omega
    have t := T89 (b := off.toNat) hk ⟨by omega, by omega⟩
    rw [← eo] at t
    simp only [e77_0, e77_22, e77_135, e77_145, e77_155, e77_165, e77_175, e77_185, e77_205, e77_210, e77_230, e77_235, e77_245, e77_289, e77_293, e77_301, e77_321, e77_326, Option.getD_some, Option.bind_some, Option.toList_some, Option.toList_none, List.cons_append, List.nil_append, and_self, and_true, true_and, false_and, and_false, ite_self, not_true_eq_false, not_false_eq_true, reduceIte, Nat.reduceEqDiff, ab_I, ab_L, ab_R, ao_I, ao_L, ao_R, gL_sL, gI_sI, gR_sR, gI_sL, gI_sR, gL_sI, gL_sR, gR_sI, gR_sL, em, Int.reduceEq, aoN hk, t]
    rfl
  · show _ = some (none, wC σ k (if isC (rC σ i) then sarN (rC σ j) ((jV (rC σ i)).toNat % n) else sarA (rC σ j)))
    by_cases y : gL σ i 1 = 0#64
    · rw [if_pos (show isC (rC σ i) from y)]
      simp only [e77_0, e77_22, e77_135, e77_145, e77_155, e77_165, e77_175, e77_185, e77_205, e77_210, e77_230, e77_235, e77_245, e77_289, e77_293, e77_301, e77_321, e77_326, Option.getD_some, Option.bind_some, Option.toList_some, Option.toList_none, List.cons_append, List.nil_append, and_self, and_true, true_and, false_and, and_false, ite_self, not_true_eq_false, not_false_eq_true, reduceIte, Nat.reduceEqDiff, ab_I, ab_L, ab_R, ao_I, ao_L, ao_R, gL_sL, gI_sI, gR_sR, gI_sL, gI_sR, gL_sI, gL_sR, gR_sI, gR_sL, em, Int.reduceEq, aoN hk, aoN hi, eq_true y, hz', T88c hk hj h hn]
    · rw [if_neg (show ¬ isC (rC σ i) from y)]
      simp only [e77_0, e77_22, e77_135, e77_145, e77_155, e77_165, e77_175, e77_185, e77_205, e77_210, e77_230, e77_235, e77_245, e77_289, e77_293, e77_301, e77_321, e77_326, Option.getD_some, Option.bind_some, Option.toList_some, Option.toList_none, List.cons_append, List.nil_append, and_self, and_true, true_and, false_and, and_false, ite_self, not_true_eq_false, not_false_eq_true, reduceIte, Nat.reduceEqDiff, ab_I, ab_L, ab_R, ao_I, ao_L, ao_R, gL_sL, gI_sI, gR_sR, gI_sL, gI_sR, gL_sI, gL_sR, gR_sI, gR_sL, em, Int.reduceEq, aoN hk, aoN hi, y, hz', T88n hk hj h]
end CMB
