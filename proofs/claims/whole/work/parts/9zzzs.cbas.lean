/-! ===== the class's reader: askings, wants ===== -/
/-- the class stands at token k, nothing is wrong -/
def cG (σ : MS) (t : Nat → Int) (n m k : Nat) : Prop := (cTx σ t n ∧ cTk σ t n m) ∧ gI σ 18 8 = (k : Int) ∧ k ≤ m ∧ gI σ 18 9 = -1
/-- what reading a statement may touch -/
def ccq (τ σ : MS) : Prop := (∀ k s, ¬ (k = 18 ∧ (s = 8 ∨ s = 9 ∨ (16 ≤ s ∧ s ≤ 18))) → gI τ k s = gI σ k s) ∧ (∀ k s, ¬ (k = 18 ∧ (s = 14 ∨ s = 15)) → gL τ k s = gL σ k s) ∧ τ.2.2 = σ.2.2
/-- the place and the word alone -/
def cqA (τ σ : MS) : Prop := (∀ k s, ¬ (k = 18 ∧ s = 8) → gI τ k s = gI σ k s) ∧ (∀ k s, ¬ (k = 18 ∧ s = 14) → gL τ k s = gL σ k s) ∧ τ.2.2 = σ.2.2
def rVc {α : Type} (r : Int ⊕ α) : Int := match r with
  | .inl _ => 0
  | .inr _ => 1
def nxC (σ : MS) (r : Int ⊕ Nat) : MS := match r with
  | .inl e => sI σ 18 9 e
  | .inr j => sI σ 18 8 (j : Int)
abbrev cE (σ τ : MS) (e : Int) : Prop := ccq τ σ ∧ gI τ 18 9 = e ∧ 0 ≤ e
section CBA
variable {t : Nat → Int} {n i j k m l : Nat} {σ τ ρ υ : MS} {c d e o s w x y : Int} {v : B64} {T : TK}
theorem ccq_r (σ : MS) : ccq σ σ := ⟨fun _ _ _ => rfl, fun _ _ _ => rfl, rfl⟩
theorem ccq_t (h1 : ccq υ τ) (h2 : ccq τ σ) : ccq υ σ := ⟨fun k s q => (h1.1 k s q).trans (h2.1 k s q), fun k s q => (h1.2.1 k s q).trans (h2.2.1 k s q), h1.2.2.trans h2.2.2⟩
theorem ccq_A (h : cqA τ σ) : ccq τ σ := ⟨fun k s q => h.1 k s (by omega), fun k s q => h.2.1 k s (by omega), h.2.2⟩
theorem cqA_r (σ : MS) : cqA σ σ := ⟨fun _ _ _ => rfl, fun _ _ _ => rfl, rfl⟩
theorem cqA_t (h1 : cqA υ τ) (h2 : cqA τ σ) : cqA υ σ := ⟨fun k s q => (h1.1 k s q).trans (h2.1 k s q), fun k s q => (h1.2.1 k s q).trans (h2.2.1 k s q), h1.2.2.trans h2.2.2⟩
theorem cqA_8 : cqA (sI σ 18 8 x) σ := ⟨fun k s q => by rw [gI_sI, if_neg (by omega)], fun _ _ _ => rfl, rfl⟩
theorem cqA_L : cqA (sL σ 18 14 v) σ := ⟨fun _ _ _ => rfl, fun k s q => by rw [gL_sL, if_neg (by omega)], rfl⟩
theorem ccq_I {s : Nat} (h : s = 8 ∨ s = 9 ∨ (16 ≤ s ∧ s ≤ 18)) : ccq (sI σ 18 s x) σ := ⟨fun k' s' q => by rw [gI_sI, if_neg (by omega)], fun _ _ _ => rfl, rfl⟩
theorem ccq_L {s : Nat} (h : s = 14 ∨ s = 15) : ccq (sL σ 18 s v) σ := ⟨fun _ _ _ => rfl, fun k' s' q => by rw [gL_sL, if_neg (by omega)], rfl⟩
theorem h8 : gI (sI σ 18 8 x) 18 8 = x := by rw [gI_sI, if_pos ⟨rfl, rfl⟩]
theorem h14 : gL (sL σ 18 14 v) 18 14 = v := by rw [gL_sL, if_pos ⟨rfl, rfl⟩]
/-- at another token -/
theorem cG_q (h : cG σ t n m k) (f : ccq τ σ) (a : gI τ 18 8 = (j : Int)) (hj : j ≤ m) (e9 : gI τ 18 9 = -1) : cG τ t n m j := by
  obtain ⟨⟨⟨t1, t2, t3, t4⟩, ⟨k1, k2, k3, k4, k5⟩⟩, -⟩ := h
  refine ⟨⟨⟨(gR_22 f.2.2).trans t1, t2, fun j => (f.1 _ _ (by omega)).trans (t3 j), t4⟩, ⟨(f.1 _ _ (by omega)).trans k1, k2, fun j hj => ?_, k4, k5⟩⟩, a, hj, e9⟩
  obtain ⟨a1, a2, a3, a4, a5⟩ := k3 j hj
  exact ⟨(f.1 _ _ (by omega)).trans a1, (f.1 _ _ (by omega)).trans a2, (f.1 _ _ (by omega)).trans a3, fun z => (f.2.1 _ _ (by omega)).trans (a4 z), fun z => (f.2.1 _ _ (by omega)).trans (a5 z)⟩
theorem cG_A (h : cG σ t n m k) (f : cqA τ σ) (a : gI τ 18 8 = (j : Int)) (hj : j ≤ m) : cG τ t n m j := cG_q h (ccq_A f) a hj ((f.1 _ _ (by omega)).trans h.2.2.2)
theorem cG_8 (h : cG σ t n m k) (hj : j ≤ m) : cG (sI σ 18 8 (j : Int)) t n m j := cG_A h cqA_8 h8 hj
theorem cG_L (h : cG σ t n m k) : cG (sL σ 18 14 v) t n m k := cG_A h cqA_L h.2.1 h.2.2.1
theorem cG_lt (h : cG σ t n m k) (h0 : ¬ tK (tks t n k) = 0) : k + 1 ≤ m := by
  have a := h.2.2.1
  have b := h.1.2.2.2.2.1
  by_cases e : k = m
  · rw [e] at h0
    exact absurd b h0
  · omega
theorem cG_m (h : cG σ t n m k) : k < 4001 := by
  have := h.2.2.1
  have := h.1.2.2.1
  omega
theorem cG_tk (h : cG σ t n m k) (hj : j ≤ m) : tkC σ j (tks t n j) := h.1.2.2.2.1 j hj
theorem kc_2' : (kC T = 1) = (tK T = 2) := by
  unfold kC
  refine propext ⟨fun h => ?_, fun h => ?_⟩
  · split at h
    · cases h
    · split at h
      · cases h
      · split at h
        · assumption
        · split at h
          · split at h <;> cases h
          · split at h <;> cases h
  · rw [if_neg (by rw [h]; decide), if_neg (by rw [h]; decide), if_pos h]
theorem kc_4' : (kC T = 4) = (tK T = 4) := by
  unfold kC
  refine propext ⟨fun h => ?_, fun h => ?_⟩
  · split at h
    · cases h
    · split at h
      · cases h
      · split at h
        · cases h
        · split at h
          · split at h <;> cases h
          · split at h
            · assumption
            · cases h
  · rw [if_neg (by rw [h]; decide), if_neg (by rw [h]; decide), if_neg (by rw [h]; decide), if_neg (by rw [h]; decide), if_pos h]
theorem kc_5' : (kC T = 5) = (tK T = 1) := by
  unfold kC
  refine propext ⟨fun h => ?_, fun h => ?_⟩
  · split at h
    · cases h
    · split at h
      · assumption
      · split at h
        · cases h
        · split at h
          · split at h <;> cases h
          · split at h <;> cases h
  · rw [if_neg (by rw [h]; decide), if_pos h]
theorem kc_6' : (kC T = 6) = (tK T = 0) := by
  unfold kC
  refine propext ⟨fun h => ?_, fun h => ?_⟩
  · split at h
    · assumption
    · split at h
      · cases h
      · split at h
        · cases h
        · split at h
          · split at h <;> cases h
          · split at h <;> cases h
  · rw [if_pos h]
theorem kc_n' : (kC T = 2) = (tK T = 3 ∧ tkS T = 0) := by
  unfold kC
  refine propext ⟨fun h => ?_, fun h => ?_⟩
  · split at h
    · cases h
    · split at h
      · cases h
      · split at h
        · cases h
        · split at h
          · rename_i c
            split at h
            · rename_i d
              exact ⟨c, d⟩
            · cases h
          · split at h <;> cases h
  · rw [if_neg (by rw [h.1]; decide), if_neg (by rw [h.1]; decide), if_neg (by rw [h.1]; decide), if_pos h.1, if_pos h.2]
theorem kc_h' : (kC T = 3) = (tK T = 3 ∧ ¬ tkS T = 0) := by
  unfold kC
  refine propext ⟨fun h => ?_, fun h => ?_⟩
  · split at h
    · cases h
    · split at h
      · cases h
      · split at h
        · cases h
        · split at h
          · rename_i c
            split at h
            · cases h
            · rename_i d
              exact ⟨c, d⟩
          · split at h <;> cases h
  · rw [if_neg (by rw [h.1]; decide), if_neg (by rw [h.1]; decide), if_neg (by rw [h.1]; decide), if_pos h.1, if_neg h.2]
theorem sC_i : ∀ a ∈ sgL, ∀ b ∈ sgL, iL (sC a) = iL (sC b) → a = b := by decide +kernel
theorem T147 (h : cG σ t n m k) (hc : s ∈ sgL) (e : sC s = c) : MM 147 [mR (some 18), mI c] σ = some (some (mI (b2 (sgn (tks t n) s k))), σ) := by
  obtain ⟨a1, a2, a3, a4, a5⟩ := cG_tk h h.2.2.1
  have km := cG_m h
  rw [M147, e147_0, h.2.1, if_pos (g20' km), Int.toNat_natCast, a1, e147_32]
  by_cases c4 : tK (tks t n k) = 4
  · have k4 : kC (tks t n k) = 4 := by rw [kc_4']; exact c4
    rw [if_neg (fun z => z k4), if_pos (g23' km), a5 c4, ← e]
    by_cases ce : tkS (tks t n k) = s
    · rw [if_neg (fun z => z (by rw [ce])), b2_yes ⟨c4, ce⟩]
    · rw [if_pos (fun z => ce (sC_i _ (tks_s c4) _ hc z)), b2_no (fun z => ce z.2)]
  · have k4 : ¬ kC (tks t n k) = 4 := by rw [kc_4']; exact c4
    rw [if_pos k4, b2_no (fun z => c4 z.1)]
theorem T144 (h : cG σ t n m k) : MM 144 [mR (some 18)] σ = some (some (mI 0), sI σ 18 9 (tB (tks t n k) : Int)) := by
  obtain ⟨a1, a2, a3, a4, a5⟩ := cG_tk h h.2.2.1
  rw [M144, e144_0, h.2.1, if_pos (g21' (cG_m h)), Int.toNat_natCast, a2]
theorem cE_m (h : cG σ t n m k) (f : ccq σ ρ) : cE ρ (sI σ 18 9 (tB (tks t n k) : Int)) (tB (tks t n k) : Int) := ⟨ccq_t (ccq_I (by omega)) f, by rw [gI_sI, if_pos ⟨rfl, rfl⟩], by omega⟩
/-- a sign is wanted -/
theorem T148 (h : cG σ t n m k) (hc : s ∈ sgL) (e : sC s = c) : MM 148 [mR (some 18), mI c] σ = some (some (mI (b2 (sgn (tks t n) s k))), if sgn (tks t n) s k then sI σ 18 8 ((k + 1 : Nat) : Int) else sI σ 18 9 (tB (tks t n k) : Int)) := by
  have km := cG_m h
  rw [M148, e148_0, T147 h hc e]
  simp only [Option.bind_some, Option.toList_some, Option.toList_none, List.cons_append, List.nil_append]
  rw [e148_5]
  by_cases cs : sgn (tks t n) s k
  · rw [b2_yes cs, if_pos n10, if_pos cs, h.2.1, w32_s1 (show k < 100000 by omega)]
  · rw [b2_no cs, if_neg (fun z => z y00), if_neg cs, T144 h]
    simp only [Option.bind_some, Option.toList_some, Option.toList_none, List.cons_append, List.nil_append]
    rw [e148_12, if_pos (Or.inl rfl)]
/-- a number is wanted -/
theorem T157 (h : cG σ t n m k) : MM 157 [mR (some 18), mL v] σ = some (some (mI (rVc (pNum (tks t n) v k))), nxC σ (pNum (tks t n) v k)) := by
  obtain ⟨a1, a2, a3, a4, a5⟩ := cG_tk h h.2.2.1
  have km := cG_m h
  have s29 : RR (lkB tb157) (B157_29, [some (mR (some 18)), some (mL v), none], [], σ) = some (some (mI 0), sI σ 18 9 (tB (tks t n k) : Int)) := by
    rw [e157_29, T144 h]
    simp only [Option.bind_some, Option.toList_some, Option.toList_none, List.cons_append, List.nil_append]
    rw [e157_33, if_pos (Or.inl rfl)]
  rw [M157, e157_0, h.2.1, if_pos (g20' km), Int.toNat_natCast, a1]
  unfold pNum
  by_cases c3 : tK (tks t n k) = 3 ∧ tkS (tks t n k) = 0
  · have k2 : kC (tks t n k) = 2 := by rw [kc_n']; exact c3
    rw [if_neg (fun z => z k2), if_pos (g23' km), a4 c3.1, T17]
    simp only [Option.bind_some, Option.toList_some, Option.toList_none, List.cons_append, List.nil_append]
    rw [e157_26, s29, h.2.1, w32_s1 (show k < 100000 by omega)]
    by_cases cl : v < tV (tks t n k)
    · rw [b2_yes cl, if_neg n10, if_neg (show ¬ (tK (tks t n k) = 3 ∧ tkS (tks t n k) = 0 ∧ ¬ v < tV (tks t n k)) from fun z => z.2.2 cl)]
      rfl
    · rw [b2_no cl, if_pos y00, if_pos (show tK (tks t n k) = 3 ∧ tkS (tks t n k) = 0 ∧ ¬ v < tV (tks t n k) from ⟨c3.1, c3.2, cl⟩)]
      rfl
  · have k2 : ¬ kC (tks t n k) = 2 := by rw [kc_n']; exact c3
    rw [if_pos k2, s29, if_neg (show ¬ (tK (tks t n k) = 3 ∧ tkS (tks t n k) = 0 ∧ ¬ v < tV (tks t n k)) from fun z => c3 ⟨z.1, z.2.1⟩)]
    rfl
/-- a name of these letters -/
theorem T146 (h : cG σ t n m k) (hl : l ≤ m) (h2 : tK (tks t n l) = 2) (hj : j < 117) : MM 146 [mR (some 18), mI (l : Int), mR (some (strK + j))] σ = some (some (mI (b2 (nmP' t (tks t n l) j))), σ) := by
  obtain ⟨a1, a2, a3, a4, a5⟩ := cG_tk h hl
  have lm : l < 4001 := by
    have := h.1.2.2.1
    omega
  have le := tks_le (t := t) (n := n) l
  have n4 := h.1.1.2.1
  obtain ⟨sl, ss⟩ := st_ok j hj
  have hj' : j < stN := hj
  have ht := h.1.1
  generalize hT : tks t n l = T at *
  have nmE : nmB t T (strAt j) = (decide (tE T - tB T = (strAt j).length) && (List.range (strAt j).length).all fun i => decide (t (tB T + i) = (((strAt j).getD i 0 : Nat) : Int))) := by
    unfold nmB
    rw [decide_eq_true h2, Bool.true_and]
  rw [M146, e146_0, Int.toNat_natCast, a2, a3, if_pos (g22' lm), if_pos (g21' lm), if_pos (ao_tx hj'), T573t hj', w32_sub le.1 (by omega)]
  simp only [Option.bind_some, Option.toList_some, Option.toList_none, List.cons_append, List.nil_append]
  rw [e146_17]
  by_cases cl : tE T - tB T = (strAt j).length
  · have nmF : (nmP' t T j) = (((List.range (strAt j).length).all fun i => decide (t (tB T + i) = (((strAt j).getD i 0 : Nat) : Int))) = true) := by
      show (nmB t T (strAt j) = true) = _
      rw [nmE, decide_eq_true cl, Bool.true_and]
    rw [if_pos (by rw [cl])]
    have key : ∀ (f p : Nat), p + f = (strAt j).length → (∀ i, i < p → t (tB T + i) = (((strAt j).getD i 0 : Nat) : Int)) → RR (lkB tb146) (B146_24, [some (mR (some 18)), some (mI (l : Int)), some (mR (some (strK + j))), some (mI (p : Int))], [], σ) = some (some (mI (b2 (nmP' t T j))), σ) := by
      intro f
      induction f with
      | zero =>
        intro p z hp
        have z : p = (strAt j).length := by omega
        have tr : nmP' t T j := by
          rw [nmF]
          exact List.all_eq_true.mpr fun i hi => decide_eq_true (hp i (by rw [z]; exact List.mem_range.mp hi))
        rw [e146_24, if_pos (ao_tx hj'), T573t hj']
        simp only [Option.bind_some, Option.toList_some, Option.toList_none, List.cons_append, List.nil_append]
        rw [e146_29, if_pos (by omega), b2_yes tr]
      | succ f ih =>
        intro p z hp
        have hpl : p < (strAt j).length := by omega
        have pl : tB T + p < n := by omega
        have nl : ¬ (((strAt j).length : Nat) : Int) ≤ (p : Int) := by omega
        have l1 : p < 100000 := by omega
        have ih := ih (p + 1) (by omega)
        have sp : (strAt j).getD p 0 < 256 := by
          have := ss p hpl
          omega
        rw [e146_24, if_pos (ao_tx hj'), T573t hj']
        simp only [Option.bind_some, Option.toList_some, Option.toList_none, List.cons_append, List.nil_append]
        rw [e146_29, if_neg nl, if_pos (g21' lm), Int.toNat_natCast, a2, w32_a (show tB T + p < 100001 by omega), if_pos (tp_c ht pl), if_pos (ao_tx hj'), T574t hj' hpl sp, Int.toNat_natCast, tp_g ht]
        simp only [Option.bind_some, Option.toList_some, Option.toList_none, List.cons_append, List.nil_append]
        rw [e146_50, w32_s1 l1]
        by_cases ce : t (tB T + p) = (((strAt j).getD p 0 : Nat) : Int)
        · rw [if_pos ce]
          exact ih fun i hi => by
            by_cases e : i = p
            · rw [e]; exact ce
            · exact hp i (by omega)
        · have fa : ¬ nmP' t T j := fun y => by
            rw [nmF] at y
            exact ce (of_decide_eq_true (List.all_eq_true.mp y p (List.mem_range.mpr hpl)))
          rw [if_neg ce, b2_no fa]
    exact key (strAt j).length 0 (by omega) (fun i hi => by omega)
  · rw [if_neg (by omega), b2_no]
    show ¬ nmB t T (strAt j) = true
    rw [nmE, decide_eq_false cl, Bool.false_and]
    decide
theorem T145 (h : cG σ t n m k) (hj : j < 117) : MM 145 [mR (some 18), mR (some (strK + j))] σ = some (some (mI (b2 (nmP' t (tks t n k) j))), σ) := by
  obtain ⟨a1, a2, a3, a4, a5⟩ := cG_tk h h.2.2.1
  have km := cG_m h
  rw [M145, e145_0, h.2.1, if_pos (g20' km), Int.toNat_natCast, a1]
  by_cases c2 : tK (tks t n k) = 2
  · have k1 : kC (tks t n k) = 1 := by rw [kc_2']; exact c2
    rw [if_neg (fun z => z k1), T146 h h.2.2.1 c2 hj]
    simp only [Option.bind_some, Option.toList_some, Option.toList_none, List.cons_append, List.nil_append]
    rw [e145_22, e145_29]
    by_cases cn : nmP' t (tks t n k) j
    · rw [b2_yes cn, if_neg n10]
    · rw [b2_no cn, if_pos y00]
  · have k1 : ¬ kC (tks t n k) = 1 := by rw [kc_2']; exact c2
    rw [if_pos k1, e145_29, b2_no (fun z => c2 (nm_k z))]
/-- the register at hand -/
theorem T149 (h : cG σ t n m k) : MM 149 [mR (some 18)] σ = some (some (mI (rgR t (tks t n k))), σ) := by
  obtain ⟨a1, a2, a3, a4, a5⟩ := cG_tk h h.2.2.1
  have km := cG_m h
  have le := tks_le (t := t) (n := n) k
  have n4 := h.1.1.2.1
  have ht := h.1.1
  have h8' := h.2.1
  have gb : ∀ j, -128 ≤ t j ∧ t j < 128 := ht.2.2.2
  generalize hT : tks t n k = T at *
  rw [M149, e149_0, h8', if_pos (g21' km), if_pos (g22' km), if_pos (g20' km), Int.toNat_natCast, a1, a2, a3, w32_sub le.1 (by omega)]
  unfold rgR
  by_cases c2 : tK T = 2
  · have k1 : kC T = 1 := by rw [kc_2']; exact c2
    rw [if_neg (fun z => z k1), if_neg (show ¬ ¬ tK T = 2 from fun z => z c2)]
    generalize tB T = a at *
    generalize tE T = b at *
    have b0 := gb a
    have b1 := gb (a + 1)
    have b2' := gb (a + 2)
    by_cases l2 : b - a < 2
    · rw [if_pos (show ((b - a : Nat) : Int) < 2 by omega), if_pos (Or.inl l2)]
    · rw [if_neg (show ¬ ((b - a : Nat) : Int) < 2 by omega)]
      by_cases l3 : 3 < b - a
      · rw [if_pos (show (3 : Int) < ((b - a : Nat) : Int) by omega), if_pos (Or.inr l3)]
      · have p0 : a < n := by omega
        have p1 : a + 1 < n := by omega
        have q1 : a < 100000 := by omega
        rw [if_neg (show ¬ (3 : Int) < ((b - a : Nat) : Int) by omega), if_neg (show ¬ (b - a < 2 ∨ 3 < b - a) by omega), if_pos (tp_c ht p0), Int.toNat_natCast, tp_g ht]
        have s69 : (t a = 114 ∨ t a = 119) → RR (lkB tb149) (B149_69, [some (mR (some 18)), some (mI (a : Int)), some (mI ((b - a : Nat) : Int)), none, none], [], σ) = some (some (mI (if b - a = 2 then (if isDg (t (a + 1)) then (if t a = 119 then 16 + (t (a + 1) - 48) else t (a + 1) - 48) else -1) else if t (a + 1) = 49 ∧ t (a + 2) = 48 then (if t a = 119 then 26 else 10) else -1)), σ) := fun hrw => by
          have s86 : ∀ y : Int, y = (if t a = 119 then 16 else 0) → RR (lkB tb149) (B149_86, [some (mR (some 18)), some (mI (a : Int)), some (mI ((b - a : Nat) : Int)), none, none], [mI y], σ) = some (some (mI (if b - a = 2 then (if isDg (t (a + 1)) then (if t a = 119 then 16 + (t (a + 1) - 48) else t (a + 1) - 48) else -1) else if t (a + 1) = 49 ∧ t (a + 2) = 48 then (if t a = 119 then 26 else 10) else -1)), σ) := fun y hy => by
            have y0 : y = 0 ∨ y = 16 := by
              rw [hy]
              split
              · exact Or.inr rfl
              · exact Or.inl rfl
            rw [e149_86, w32_s1 q1, if_pos (tp_c ht p1), Int.toNat_natCast, tp_g ht, e149_152, e149_131, w32_i (x := t (a + 1) - 48) (by omega) (by omega)]
            by_cases e2 : b - a = 2
            · rw [if_pos (show ¬ ((b - a : Nat) : Int) = 3 by omega), if_pos e2]
              by_cases d : isDg (t (a + 1))
              · have d1 := d.1
                have d2 := d.2
                rw [if_neg (show ¬ t (a + 1) - 48 < 0 by omega), if_neg (show ¬ (9 : Int) < t (a + 1) - 48 by omega), if_pos d, w32_i (by omega) (by omega), hy]
                by_cases c9 : t a = 119
                · rw [if_pos c9, if_pos c9]
                · rw [if_neg c9, if_neg c9, Int.zero_add]
              · rw [if_neg d]
                by_cases n1 : t (a + 1) - 48 < 0
                · rw [if_pos n1]
                · rw [if_neg n1, if_pos (show (9 : Int) < t (a + 1) - 48 from Classical.byContradiction fun z => d ⟨by omega, by omega⟩)]
            · have p2 : a + 2 < n := by omega
              have q2 : a + 2 < 100001 := by omega
              rw [if_neg (show ¬ ¬ ((b - a : Nat) : Int) = 3 by omega), if_neg e2]
              by_cases d1 : t (a + 1) = 49
              · rw [if_neg (show ¬ ¬ t (a + 1) - 48 = 1 by omega), show w32 ((a : Int) + 2) = ((a + 2 : Nat) : Int) from w32_a (a := a) (b := 2) q2, if_pos (tp_c ht p2), Int.toNat_natCast, tp_g ht]
                by_cases d2 : t (a + 2) = 48
                · rw [if_neg (fun z => z d2), if_pos ⟨d1, d2⟩, hy]
                  by_cases c9 : t a = 119
                  · rw [if_pos c9, if_pos c9]
                    rfl
                  · rw [if_neg c9, if_neg c9]
                    rfl
                · rw [if_pos d2, if_neg (fun z => d2 z.2)]
              · rw [if_pos (show ¬ t (a + 1) - 48 = 1 by omega), if_neg (fun z => d1 z.1)]
          rw [e149_69, if_pos (tp_c ht p0), Int.toNat_natCast, tp_g ht]
          by_cases c9 : t a = 119
          · rw [if_neg (fun z => z c9)]
            exact s86 16 (if_pos c9).symm
          · rw [if_pos c9]
            exact s86 0 (if_neg c9).symm
        by_cases c1 : t a = 114
        · rw [if_pos c1, if_neg (fun z => z (Or.inl c1))]
          exact s69 (Or.inl c1)
        · rw [if_neg c1, if_pos (tp_c ht p0)]
          by_cases c9 : t a = 119
          · rw [if_pos c9, if_neg (fun z => z (Or.inr c9))]
            exact s69 (Or.inr c9)
          · rw [if_neg c9, if_pos (show ¬ (t a = 114 ∨ t a = 119) from fun z => z.elim c1 c9)]
  · have k1 : ¬ kC T = 1 := by rw [kc_2']; exact c2
    rw [if_pos k1, if_pos c2]
end CBA
