/-! ===== the class's reader: CONST, registers, codes ===== -/
section CWN
variable {t : Nat → Int} {n i j k m l : Nat} {σ τ ρ υ : MS} {c d e o s w x y op f r im : Int} {v : B64} {T : TK}
theorem c9 : gI (sI σ 18 9 x) 18 9 = x := by rw [gI_sI, if_pos ⟨rfl, rfl⟩]
theorem bl0 : bl (0 : Int) := Or.inl rfl
theorem bl1 : bl (1 : Int) := Or.inr rfl
/-- CONST -/
theorem T160 (h : cG σ t n m k) (hw : gL σ 18 14 = wdR op d s f 0) : okc (MM 160 [mR (some 18)] σ) (some (mI (rVc (pCst (tks t n) k)))) (fun τ => oR (pCst (tks t n) k) (cE σ τ) (fun q => cqA τ σ ∧ gI τ 18 8 = (q.2 : Int) ∧ q.2 ≤ m ∧ gL τ 18 14 = wdR op d s f (lI q.1))) := by
  have km := cG_m h
  have main : ∀ (M : Int) (J : Nat) (ρ : MS), M = mnS (tks t n) k → J = skS (tks t n) k → cG ρ t n m J → cqA ρ σ → gL ρ 18 14 = wdR op d s f 0 → okc (RR (lkB tb160) (B160_21, [some (mR (some 18)), some (mI M)], [], ρ)) (some (mI (rVc (pCst (tks t n) k)))) (fun τ => oR (pCst (tks t n) k) (cE σ τ) (fun q => cqA τ σ ∧ gI τ 18 8 = (q.2 : Int) ∧ q.2 ≤ m ∧ gL τ 18 14 = wdR op d s f (lI q.1))) := fun M J ρ hM hJ g fr w => by
    obtain ⟨Y, hY⟩ : ∃ Y, Y = if M = 0 then iL 4294967295 else iL 2147483648 := ⟨_, rfl⟩
    obtain ⟨G, hG⟩ : ∃ G, G = gL ρ 23 J := ⟨_, rfl⟩
    have jm := cG_m g
    have s73 : RR (lkB tb160) (B160_21, [some (mR (some 18)), some (mI M)], [], ρ) = RR (lkB tb160) (B160_73, [some (mR (some 18)), some (mI M)], [mL Y, mR (some 18)], sL ρ 18 14 (wdR op d s f 0 ||| lShl (sgV M G) 32)) := by
      rw [e160_21, g.2.1, if_pos (g23' jm), Int.toNat_natCast, w, ← hG, hY]
      unfold sgV
      by_cases c : M = 0
      · rw [if_pos c, if_pos c, if_pos c, e160_52, if_pos c]
      · rw [if_neg c, if_neg c, if_neg c, if_pos (g23' jm), e160_52, if_neg c]
    have pc : pCst (tks t n) k = bS (pNum (tks t n) Y J) fun k2 => .inr (sgV M (tV (tks t n J)), k2) := by
      unfold pCst
      rw [← hM, ← hJ, ← hY]
    have g2 : cG (sL ρ 18 14 (wdR op d s f 0 ||| lShl (sgV M G) 32)) t n m J := cG_L g
    rw [s73, e160_73, T157 g2, pc]
    simp only [Option.bind_some, Option.toList_some, Option.toList_none, List.cons_append, List.nil_append]
    cases hp : pNum (tks t n) Y J with
    | inl e =>
      have he : e = (tB (tks t n J) : Int) := by
        unfold pNum at hp
        split at hp
        · cases hp
        · exact (Sum.inl.inj hp).symm
      show okc (RR (lkB tb160) (B160_76, [some (mR (some 18)), some (mI M)], [mI 0], sI (sL ρ 18 14 (wdR op d s f 0 ||| lShl (sgV M G) 32)) 18 9 e)) (some (mI 0)) _
      rw [e160_76, if_pos bl0]
      exact okc_s ⟨ccq_t (ccq_I (by omega)) (ccq_t (ccq_L (by omega)) (ccq_A fr)), c9, by omega⟩
    | inr j2 =>
      have ej := mo_num hp
      have k3 : tK (tks t n J) = 3 := by
        unfold pNum at hp
        split at hp
        · rename_i z; exact z.1
        · cases hp
      have lt := cG_lt g (by rw [k3]; decide)
      have gv : G = tV (tks t n J) := by rw [hG]; exact (cG_tk g g.2.2.1).2.2.2.1 k3
      show okc (RR (lkB tb160) (B160_76, [some (mR (some 18)), some (mI M)], [mI 1], sI (sL ρ 18 14 (wdR op d s f 0 ||| lShl (sgV M G) 32)) 18 8 (j2 : Int))) (some (mI 1)) _
      rw [e160_76, if_pos bl1]
      refine okc_s ⟨cqA_t cqA_8 (cqA_t cqA_L fr), h8, by show j2 ≤ m; omega, ?_⟩
      rw [gL_sI, h14, wd_i, gv]
  rw [M160, e160_0, T147 (s := 45) h (by decide) (by decide)]
  simp only [Option.bind_some, Option.toList_some, Option.toList_none, List.cons_append, List.nil_append]
  rw [e160_6]
  by_cases cs : sgn (tks t n) 45 k
  · obtain ⟨x1, x2⟩ := mn_1 cs
    have lt := cG_lt h (by rw [cs.1]; decide)
    rw [b2_yes cs, if_neg n10, h.2.1, w32_s1 (show k < 100000 by omega)]
    exact main 1 (k + 1) _ x1.symm x2.symm (cG_8 h lt) cqA_8 hw
  · obtain ⟨x1, x2⟩ := mn_0 cs
    rw [b2_no cs, if_pos y00]
    exact main 0 k σ x1.symm x2.symm h (cqA_r σ) hw
theorem and16 : ∀ r : Fin 32, iAnd ((r : Nat) : Int) 16 = if ((r : Nat) : Int) < 16 then 0 else 16 := by decide
theorem and16' {r : Int} (h : 0 ≤ r ∧ r ≤ 26) : iAnd r 16 = if r < 16 then 0 else 16 := by
  have := and16 ⟨r.toNat, by omega⟩
  simp only at this
  rwa [show ((r.toNat : Nat) : Int) = r by omega] at this
theorem rg_b (h : 0 ≤ rgR t T) : 0 ≤ rgR t T ∧ rgR t T ≤ 26 := by
  have := rgR_r (t := t) (X := T)
  omega
/-- the right side's register -/
theorem T161 (h : cG σ t n m k) (hr : 0 ≤ r ∧ r ≤ 26) (hw : gL σ 18 14 = wdR op d 0 f im) (ho : -2147483648 ≤ op ∧ op < 2147483648) : okc (MM 161 [mR (some 18), mI r] σ) (some (mI (rVc (pRgt t (tks t n) (wOf r) k)))) (fun τ => oR (pRgt t (tks t n) (wOf r) k) (cE σ τ) (fun q => cqA τ σ ∧ gI τ 18 8 = (q.2 : Int) ∧ q.2 ≤ m ∧ gL τ 18 14 = wdR (iOr op 8) d q.1 f im)) := by
  have km := cG_m h
  have rr := rgR_r (t := t) (X := tks t n k)
  obtain ⟨R, hR⟩ : ∃ R, R = rgR t (tks t n k) := ⟨_, rfl⟩
  unfold pRgt
  rw [M161, e161_0, T149 h, ← hR]
  rw [← hR] at rr
  simp only [Option.bind_some, Option.toList_some, Option.toList_none, List.cons_append, List.nil_append]
  have bad : RR (lkB tb161) (B161_21, [some (mR (some 18)), some (mI r), some (mI R)], [], σ) = some (some (mI 0), sI σ 18 9 (tB (tks t n k) : Int)) := by
    rw [e161_21, T144 h]
    simp only [Option.bind_some, Option.toList_some, Option.toList_none, List.cons_append, List.nil_append]
    rw [e161_25, if_pos bl0]
  rw [e161_4]
  by_cases c1 : R = -1
  · rw [if_pos c1, if_pos (Or.inl (by omega)), bad]
    exact okc_s (cE_m h (ccq_r _))
  · rw [if_neg c1, and16' (show 0 ≤ R ∧ R ≤ 26 by omega), and16' hr]
    have weq : ((if R < 16 then (0 : Int) else 16) = (if r < 16 then 0 else 16)) ↔ (if R < 16 then (0 : Int) else 1) = wOf r := by
      unfold wOf
      by_cases a : R < 16
      · rw [if_pos a, if_pos a]
        by_cases b : r < 16
        · rw [if_pos b, if_pos b]
          all_goals exact ⟨fun _ => rfl, fun _ => rfl⟩
        · rw [if_neg b, if_neg b]
          exact ⟨fun z => by omega, fun z => by omega⟩
      · rw [if_neg a, if_neg a]
        by_cases b : r < 16
        · rw [if_pos b, if_pos b]
          exact ⟨fun z => by omega, fun z => by omega⟩
        · rw [if_neg b, if_neg b]
          all_goals exact ⟨fun _ => rfl, fun _ => rfl⟩
    by_cases c2 : (if R < 16 then (0 : Int) else 1) = wOf r
    · have k2 : tK (tks t n k) = 2 := rgR_n (t := t) (by omega)
      have lt := cG_lt h (by rw [k2]; decide)
      rw [if_pos (weq.mpr c2), if_neg (show ¬ (R < 0 ∨ ¬ (if R < 16 then (0 : Int) else 1) = wOf r) from fun z => z.elim (fun a => by omega) (fun a => a c2)), hw, gI_sL, h.2.1, w32_s1 (show k < 100000 by omega)]
      refine okc_s ⟨cqA_t cqA_8 cqA_L, h8, lt, ?_⟩
      rw [gL_sI, h14, wd_8 ho]
    · rw [if_neg (fun z => c2 (weq.mp z)), if_pos (Or.inr c2), bad]
      exact okc_s (cE_m h (ccq_r _))
/-- the same register -/
theorem T169 (h : cG σ t n m k) (hr : 0 ≤ r) : MM 169 [mR (some 18), mI r] σ = if rgR t (tks t n k) = r then some (some (mI 1), sI σ 18 8 ((k + 1 : Nat) : Int)) else some (some (mI 0), sI σ 18 9 (tB (tks t n k) : Int)) := by
  have km := cG_m h
  rw [M169, e169_0, T149 h]
  simp only [Option.bind_some, Option.toList_some, Option.toList_none, List.cons_append, List.nil_append]
  rw [e169_4]
  by_cases c : rgR t (tks t n k) = r
  · rw [if_pos c, if_pos c, h.2.1, w32_s1 (show k < 100000 by omega)]
  · rw [if_neg c, if_neg c, T144 h]
    simp only [Option.bind_some, Option.toList_some, Option.toList_none, List.cons_append, List.nil_append]
    rw [e169_12, if_pos bl0]
theorem T155 : MM 155 [mI op, mL v] σ = some (some (mL (if wdO op = 0 then lShl (v &&& iL 65535) 16 else lShl v 32)), σ) := by
  unfold wdO
  rw [M155, e155_0, e155_13]
  by_cases c1 : op = 6
  · rw [if_pos c1, if_pos (show op = 6 ∨ op = 133 from Or.inl c1), if_neg n10]
  · rw [if_neg c1]
    by_cases c2 : op = 133
    · rw [if_neg (fun z => z c2), if_pos (show op = 6 ∨ op = 133 from Or.inr c2), if_neg n10]
    · rw [if_pos c2, if_neg (show ¬ (op = 6 ∨ op = 133) by omega), if_pos y00]
theorem lI_sC : ∀ a ∈ sgL, lI (iL (sC a)) = sC a := by decide +kernel
theorem cT_0 : ∀ a ∈ sgL, cdT a = (if sC a = 15653 then 144 else if sC a = 15654 then 80 else if sC a = 15658 then 32 else if sC a = 15659 then 0 else if sC a = 15661 then 16 else if sC a = 15663 then 48 else if sC a = 15710 then 160 else if sC a = 15740 then 64 else if sC a = 4013116 then 96 else if sC a = 4013630 then 112 else -1) := by decide +kernel
theorem cT_1 : ∀ a ∈ sgL, cpT a 0 = (if sC a = 38 then 64 else if sC a = 60 then 160 else if sC a = 62 then 32 else if sC a = 15649 then 80 else if sC a = 15676 then 176 else if sC a = 15677 then 16 else if sC a = 15678 then 48 else -1) := by decide +kernel
theorem some_if {p : Prop} {d : Decidable p} {a b : Int} {σ : MS} : (@ite (Option Rs) p d (some (some (mI a), σ)) (some (some (mI b), σ))) = some (some (mI (@ite _ p d a b)), σ) := by
  split <;> rfl
theorem T167 (h : cG σ t n m k) : MM 167 [mR (some 18)] σ = some (some (mI (opT (tks t n k))), σ) := by
  obtain ⟨a1, a2, a3, a4, a5⟩ := cG_tk h h.2.2.1
  have km := cG_m h
  rw [M167, e167_0, h.2.1, if_pos (g20' km), Int.toNat_natCast, a1]
  unfold opT
  by_cases c4 : tK (tks t n k) = 4
  · have k4 : kC (tks t n k) = 4 := by rw [kc_4']; exact c4
    rw [if_pos k4, if_pos (g23' km), a5 c4, lI_sC _ (tks_s c4), if_pos c4, cT_0 _ (tks_s c4)]
    simp only [some_if]
  · have k4 : ¬ kC (tks t n k) = 4 := by rw [kc_4']; exact c4
    rw [if_neg k4, if_neg c4]
theorem T164 (h : cG σ t n m k) : MM 164 [mR (some 18)] σ = some (some (mI (cmT' (tks t n k) 0)), σ) := by
  obtain ⟨a1, a2, a3, a4, a5⟩ := cG_tk h h.2.2.1
  have km := cG_m h
  rw [M164, e164_0, h.2.1, if_pos (g20' km), Int.toNat_natCast, a1]
  unfold cmT'
  by_cases c4 : tK (tks t n k) = 4
  · have k4 : kC (tks t n k) = 4 := by rw [kc_4']; exact c4
    rw [if_pos k4, if_pos (g23' km), a5 c4, lI_sC _ (tks_s c4), if_pos c4, cT_1 _ (tks_s c4)]
    simp only [some_if]
  · have k4 : ¬ kC (tks t n k) = 4 := by rw [kc_4']; exact c4
    rw [if_neg k4, if_neg c4]
theorem cm_1 : ∀ a ∈ sgL, cpT a 1 = if a = 62 then 96 else if a = 15933 then 112 else if a = 60 then 192 else if a = 15421 then 208 else -1 := by decide
theorem T163 (h : cG σ t n m k) : MM 163 [mR (some 18)] σ = some (some (mI (cmT' (tks t n k) 1)), σ) := by
  have e : cmT' (tks t n k) 1 = if sgn (tks t n) 62 k then 96 else if sgn (tks t n) 15933 k then 112 else if sgn (tks t n) 60 k then 192 else if sgn (tks t n) 15421 k then 208 else -1 := by
    unfold cmT'
    by_cases c4 : tK (tks t n k) = 4
    · have s1 : ∀ x : Int, sgn (tks t n) x k = (tkS (tks t n k) = x) := fun x => propext ⟨fun z => z.2, fun z => ⟨c4, z⟩⟩
      rw [if_pos c4, cm_1 _ (tks_s c4)]
      simp only [s1]
    · rw [if_neg c4, if_neg (fun z => c4 z.1), if_neg (fun z => c4 z.1), if_neg (fun z => c4 z.1), if_neg (fun z => c4 z.1)]
  rw [M163, e163_0, T147 (s := 62) h (by decide) (by decide), e]
  simp only [Option.bind_some, Option.toList_some, Option.toList_none, List.cons_append, List.nil_append]
  rw [e163_6]
  by_cases c1 : sgn (tks t n) 62 k
  · rw [b2_yes c1, if_neg n10, if_pos c1]
  · rw [b2_no c1, if_pos y00, if_neg c1, T147 (s := 15933) h (by decide) (by decide)]
    simp only [Option.bind_some, Option.toList_some, Option.toList_none, List.cons_append, List.nil_append]
    rw [e163_19]
    by_cases c2 : sgn (tks t n) 15933 k
    · rw [b2_yes c2, if_neg n10, if_pos c2]
    · rw [b2_no c2, if_pos y00, if_neg c2, T147 (s := 60) h (by decide) (by decide)]
      simp only [Option.bind_some, Option.toList_some, Option.toList_none, List.cons_append, List.nil_append]
      rw [e163_31]
      by_cases c3 : sgn (tks t n) 60 k
      · rw [b2_yes c3, if_neg n10, if_pos c3]
      · rw [b2_no c3, if_pos y00, if_neg c3, T147 (s := 15421) h (by decide) (by decide)]
        simp only [Option.bind_some, Option.toList_some, Option.toList_none, List.cons_append, List.nil_append]
        rw [e163_45]
        by_cases c4 : sgn (tks t n) 15421 k
        · rw [b2_yes c4, if_neg n10, if_pos c4]
        · rw [b2_no c4, if_pos y00, if_neg c4]
/-- codes of operations with signs, as the class tells them -/
def osC (c : Int) : Int := if c = 48 then 65584 else if c = 144 then 65680 else if c = 112 then 192 else -1
theorem os_1 : ∀ a ∈ sgL, osC (cdT a) = if a = 12093 then 65584 else if a = 9533 then 65680 else if a = 4079165 then 192 else -1 := by decide
theorem T166 (h : cG σ t n m k) : MM 166 [mR (some 18)] σ = some (some (mI (osC (opT (tks t n k)))), σ) := by
  have e : osC (opT (tks t n k)) = if sgn (tks t n) 12093 k then 65584 else if sgn (tks t n) 9533 k then 65680 else if sgn (tks t n) 4079165 k then 192 else -1 := by
    unfold opT
    by_cases c4 : tK (tks t n k) = 4
    · have s1 : ∀ x : Int, sgn (tks t n) x k = (tkS (tks t n k) = x) := fun x => propext ⟨fun z => z.2, fun z => ⟨c4, z⟩⟩
      rw [if_pos c4, os_1 _ (tks_s c4)]
      simp only [s1]
    · rw [if_neg c4, if_neg (fun z => c4 z.1), if_neg (fun z => c4 z.1), if_neg (fun z => c4 z.1)]
      decide
  rw [M166, e166_0, T147 (s := 12093) h (by decide) (by decide), e]
  simp only [Option.bind_some, Option.toList_some, Option.toList_none, List.cons_append, List.nil_append]
  rw [e166_7]
  by_cases c1 : sgn (tks t n) 12093 k
  · rw [b2_yes c1, if_neg n10, if_pos c1]
  · rw [b2_no c1, if_pos y00, if_neg c1, T147 (s := 9533) h (by decide) (by decide)]
    simp only [Option.bind_some, Option.toList_some, Option.toList_none, List.cons_append, List.nil_append]
    rw [e166_21]
    by_cases c2 : sgn (tks t n) 9533 k
    · rw [b2_yes c2, if_neg n10, if_pos c2]
    · rw [b2_no c2, if_pos y00, if_neg c2, T147 (s := 4079165) h (by decide) (by decide)]
      simp only [Option.bind_some, Option.toList_some, Option.toList_none, List.cons_append, List.nil_append]
      rw [e166_35]
      by_cases c3 : sgn (tks t n) 4079165 k
      · rw [b2_yes c3, if_neg n10, if_pos c3]
      · rw [b2_no c3, if_pos y00, if_neg c3]
def xsC (c : Int) : Int := if c = 0 ∨ c = 64 ∨ c = 80 ∨ c = 160 then c else -1
theorem xs_1 : ∀ a ∈ sgL, xsC (cdT a) = if a = 11069 then 0 else if a = 31805 then 64 else if a = 9789 then 80 else if a = 24125 then 160 else -1 := by decide
theorem T178 (h : cG σ t n m k) : MM 178 [mR (some 18)] σ = some (some (mI (xsC (opT (tks t n k)))), σ) := by
  have e : xsC (opT (tks t n k)) = if sgn (tks t n) 11069 k then 0 else if sgn (tks t n) 31805 k then 64 else if sgn (tks t n) 9789 k then 80 else if sgn (tks t n) 24125 k then 160 else -1 := by
    unfold opT
    by_cases c4 : tK (tks t n k) = 4
    · have s1 : ∀ x : Int, sgn (tks t n) x k = (tkS (tks t n k) = x) := fun x => propext ⟨fun z => z.2, fun z => ⟨c4, z⟩⟩
      rw [if_pos c4, xs_1 _ (tks_s c4)]
      simp only [s1]
    · rw [if_neg c4, if_neg (fun z => c4 z.1), if_neg (fun z => c4 z.1), if_neg (fun z => c4 z.1), if_neg (fun z => c4 z.1)]
      decide
  rw [M178, e178_0, T147 (s := 11069) h (by decide) (by decide), e]
  simp only [Option.bind_some, Option.toList_some, Option.toList_none, List.cons_append, List.nil_append]
  rw [e178_7]
  by_cases c1 : sgn (tks t n) 11069 k
  · rw [b2_yes c1, if_neg n10, if_pos c1]
  · rw [b2_no c1, if_pos y00, if_neg c1, T147 (s := 31805) h (by decide) (by decide)]
    simp only [Option.bind_some, Option.toList_some, Option.toList_none, List.cons_append, List.nil_append]
    rw [e178_19]
    by_cases c2 : sgn (tks t n) 31805 k
    · rw [b2_yes c2, if_neg n10, if_pos c2]
    · rw [b2_no c2, if_pos y00, if_neg c2, T147 (s := 9789) h (by decide) (by decide)]
      simp only [Option.bind_some, Option.toList_some, Option.toList_none, List.cons_append, List.nil_append]
      rw [e178_32]
      by_cases c3 : sgn (tks t n) 9789 k
      · rw [b2_yes c3, if_neg n10, if_pos c3]
      · rw [b2_no c3, if_pos y00, if_neg c3, T147 (s := 24125) h (by decide) (by decide)]
        simp only [Option.bind_some, Option.toList_some, Option.toList_none, List.cons_append, List.nil_append]
        rw [e178_45]
        by_cases c4 : sgn (tks t n) 24125 k
        · rw [b2_yes c4, if_neg n10, if_pos c4]
        · rw [b2_no c4, if_pos y00, if_neg c4]
/-- the mode and size of a place -/
theorem T174 (h : cG σ t n m k) : MM 174 [mR (some 18), mI x] σ = some (some (mI (pSz t (tks t n k) x)), σ) := by
  obtain ⟨a1, a2, a3, a4, a5⟩ := cG_tk h h.2.2.1
  have km := cG_m h
  have le := tks_le (t := t) (n := n) k
  have n4 := h.1.1.2.1
  have ht := h.1.1
  have S : ∀ j, j < 117 → tK (tks t n k) = 2 → MM 146 [mR (some 18), mI (k : Int), mR (some (strK + j))] σ = some (some (mI (b2 (nmP' t (tks t n k) j))), σ) := fun j hj z => T146 h h.2.2.1 z hj
  have h8' := h.2.1
  generalize hT : tks t n k = T at *
  rw [M174, e174_0, h8', if_pos (g20' km), Int.toNat_natCast, a1]
  unfold pSz
  by_cases c2 : tK T = 2
  · have k1 : kC T = 1 := by rw [kc_2']; exact c2
    have S := fun j hj => S j hj c2
    rw [if_pos k1]
    -- the char behind the first
    have s129 : ∀ (j : Nat) (b : Int) (g : Nat) (r : Int), nmP' t T j → 2 ≤ (strAt j).length → (strAt j).getD 1 0 = g → (if g = 49 then iOr b 8 else if g = 51 then b else if g = 56 then iOr b 16 else iOr b 24) = r → RR (lkB tb174) (B174_129, [some (mR (some 18)), some (mI x), some (mI b)], [], σ) = some (some (mI r), σ) := fun j b g r hn hl hg hr => by
      obtain ⟨l1, l2⟩ := nm_l hn
      have e1 := l2 1 (by omega)
      have p1 : tB T + 1 < n := by omega
      have q1 : tB T < 100000 := by omega
      rw [hg] at e1
      rw [e174_129, h8', if_pos (g21' km), Int.toNat_natCast, a2, w32_s1 q1, if_pos (tp_c ht p1), Int.toNat_natCast, tp_g ht, e1, ← hr]
      by_cases c49 : g = 49
      · rw [if_pos (show (g : Int) = 49 by omega), if_pos c49]
      · rw [if_neg (show ¬ (g : Int) = 49 by omega), if_neg c49]
        by_cases c51 : g = 51
        · rw [if_pos (show (g : Int) = 51 by omega), if_pos c51]
        · rw [if_neg (show ¬ (g : Int) = 51 by omega), if_neg c51]
          by_cases c56 : g = 56
          · rw [if_pos (show (g : Int) = 56 by omega), if_pos c56]
          · rw [if_neg (show ¬ (g : Int) = 56 by omega), if_neg c56]
    have s71 : RR (lkB tb174) (B174_71, [some (mR (some 18)), some (mI x), some (mI 96)], [], σ) = some (some (mI (if nmP' t T 75 then 112 else if nmP' t T 76 then 104 else if nmP' t T 77 then 96 else if nmP' t T 78 then 120 else -1)), σ) := by
      rw [e174_71, h8', S 75 (by decide)]
      simp only [Option.bind_some, Option.toList_some, Option.toList_none, List.cons_append, List.nil_append]
      rw [e174_82]
      by_cases c5 : nmP' t T 75
      · rw [b2_yes c5, if_pos n10, if_pos c5]
        exact s129 75 96 56 112 c5 (by rw [st_75]; decide) (by rw [st_75]; rfl) (by decide)
      · rw [b2_no c5, if_neg (fun z => z y00), if_neg c5, h8', S 76 (by decide)]
        simp only [Option.bind_some, Option.toList_some, Option.toList_none, List.cons_append, List.nil_append]
        rw [e174_96]
        by_cases c6 : nmP' t T 76
        · rw [b2_yes c6, if_pos n10, if_pos c6]
          exact s129 76 96 49 104 c6 (by rw [st_76]; decide) (by rw [st_76]; rfl) (by decide)
        · rw [b2_no c6, if_neg (fun z => z y00), if_neg c6, h8', S 77 (by decide)]
          simp only [Option.bind_some, Option.toList_some, Option.toList_none, List.cons_append, List.nil_append]
          rw [e174_110]
          by_cases c7 : nmP' t T 77
          · rw [b2_yes c7, if_pos n10, if_pos c7]
            exact s129 77 96 51 96 c7 (by rw [st_77]; decide) (by rw [st_77]; rfl) (by decide)
          · rw [b2_no c7, if_neg (fun z => z y00), if_neg c7, h8', S 78 (by decide)]
            simp only [Option.bind_some, Option.toList_some, Option.toList_none, List.cons_append, List.nil_append]
            rw [e174_124]
            by_cases c8 : nmP' t T 78
            · rw [b2_yes c8, if_pos n10, if_pos c8]
              exact s129 78 96 54 120 c8 (by rw [st_78]; decide) (by rw [st_78]; rfl) (by decide)
            · rw [b2_no c8, if_neg (fun z => z y00), if_neg c8]
    by_cases x0 : x = 0
    · rw [if_pos x0, s71, if_neg (show ¬ (¬ x = 0 ∧ nmP' t T 72) from fun z => z.1 x0), if_neg (show ¬ (¬ x = 0 ∧ nmP' t T 73) from fun z => z.1 x0), if_neg (show ¬ (¬ x = 0 ∧ nmP' t T 74) from fun z => z.1 x0)]
    · rw [if_neg x0, S 72 (by decide)]
      simp only [Option.bind_some, Option.toList_some, Option.toList_none, List.cons_append, List.nil_append]
      rw [e174_33]
      by_cases c5 : nmP' t T 72
      · rw [b2_yes c5, if_pos n10, if_pos (show ¬ x = 0 ∧ nmP' t T 72 from ⟨x0, c5⟩), e174_64]
        exact s129 72 128 56 144 c5 (by rw [st_72]; decide) (by rw [st_72]; rfl) (by decide)
      · rw [b2_no c5, if_neg (fun z => z y00), if_neg (show ¬ (¬ x = 0 ∧ nmP' t T 72) from fun z => c5 z.2), h8', S 73 (by decide)]
        simp only [Option.bind_some, Option.toList_some, Option.toList_none, List.cons_append, List.nil_append]
        rw [e174_47]
        by_cases c6 : nmP' t T 73
        · rw [b2_yes c6, if_pos n10, if_pos (show ¬ x = 0 ∧ nmP' t T 73 from ⟨x0, c6⟩), e174_64]
          exact s129 73 128 49 136 c6 (by rw [st_73]; decide) (by rw [st_73]; rfl) (by decide)
        · rw [b2_no c6, if_neg (fun z => z y00), if_neg (show ¬ (¬ x = 0 ∧ nmP' t T 73) from fun z => c6 z.2), h8', S 74 (by decide)]
          simp only [Option.bind_some, Option.toList_some, Option.toList_none, List.cons_append, List.nil_append]
          rw [e174_61]
          by_cases c7 : nmP' t T 74
          · rw [b2_yes c7, if_neg n10, if_pos (show ¬ x = 0 ∧ nmP' t T 74 from ⟨x0, c7⟩), e174_64]
            exact s129 74 128 51 128 c7 (by rw [st_74]; decide) (by rw [st_74]; rfl) (by decide)
          · rw [b2_no c7, if_pos y00, s71, if_neg (show ¬ (¬ x = 0 ∧ nmP' t T 74) from fun z => c7 z.2)]
  · have k1 : ¬ kC T = 1 := by rw [kc_2']; exact c2
    have nn : ∀ j, ¬ nmP' t T j := fun j z => c2 (nm_k z)
    rw [if_neg k1, if_neg (fun z => nn 72 z.2), if_neg (fun z => nn 73 z.2), if_neg (fun z => nn 74 z.2), if_neg (nn 75), if_neg (nn 76), if_neg (nn 77), if_neg (nn 78)]
end CWN
