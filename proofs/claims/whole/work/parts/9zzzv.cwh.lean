/-! ===== the class's reader: WHERE, sources, numbers, casts ===== -/
def whI : Option Nat → Int
  | none => -1
  | some k => (k : Int)
/-- the place, the word, the WHERE -/
def cqW (τ σ : MS) : Prop := (∀ k s, ¬ (k = 18 ∧ (s = 8 ∨ s = 18)) → gI τ k s = gI σ k s) ∧ (∀ k s, ¬ (k = 18 ∧ s = 14) → gL τ k s = gL σ k s) ∧ τ.2.2 = σ.2.2
/-- what a statement leaves -/
def cST (m : Nat) (σ τ : MS) (q : SR × Nat) : Prop := ccq τ σ ∧ (gI τ 18 8 = (q.2 : Int) ∧ q.2 ≤ m ∧ gI τ 18 9 = -1) ∧ (¬ q.1.2.1.1 = 0 → gL τ 18 14 = q.1.2.1.2.1) ∧ (q.1.2.1.1 = 0 → gL τ 18 14 = wdR q.1.1.1 q.1.1.2.1 q.1.1.2.2.1 q.1.1.2.2.2.1 q.1.1.2.2.2.2) ∧ gI τ 18 16 = q.1.2.1.2.2 ∧ (¬ q.1.2.1.2.2 = 0 → gL τ 18 15 = q.1.2.1.2.1) ∧ gI τ 18 17 = q.1.2.1.1 ∧ gI τ 18 18 = whI q.1.2.2
/-- before one -/
def cZ0 (σ : MS) : Prop := gI σ 18 16 = 0 ∧ gI σ 18 17 = 0 ∧ gI σ 18 18 = -1 ∧ gL σ 18 15 = 0
/-- a register -/
abbrev isR (r : Int) : Prop := 0 ≤ r ∧ (r ≤ 10 ∨ (16 ≤ r ∧ r ≤ 26))
section CWH
variable {t : Nat → Int} {n i j k m l : Nat} {σ τ ρ υ : MS} {c d e o s w x y z a r op f im : Int} {v W Y : B64} {T : TK}
theorem cqW_A (h : cqA τ σ) : cqW τ σ := ⟨fun k s q => h.1 k s (by omega), h.2.1, h.2.2⟩
theorem cqW_t (h1 : cqW υ τ) (h2 : cqW τ σ) : cqW υ σ := ⟨fun k s q => (h1.1 k s q).trans (h2.1 k s q), fun k s q => (h1.2.1 k s q).trans (h2.2.1 k s q), h1.2.2.trans h2.2.2⟩
theorem cqW_18 : cqW (sI σ 18 18 x) σ := ⟨fun k s q => by rw [gI_sI, if_neg (by omega)], fun _ _ _ => rfl, rfl⟩
theorem ccq_W (h : cqW τ σ) : ccq τ σ := ⟨fun k s q => h.1 k s (by omega), fun k s q => h.2.1 k s (by omega), h.2.2⟩
theorem cZ0_A (h : cZ0 σ) (f : cqA τ σ) : cZ0 τ := ⟨(f.1 _ _ (by omega)).trans h.1, (f.1 _ _ (by omega)).trans h.2.1, (f.1 _ _ (by omega)).trans h.2.2.1, (f.2.1 _ _ (by omega)).trans h.2.2.2⟩
theorem fO8 : fOp v = ((v.setWidth 8).toNat : Int) := by
  unfold fOp
  rw [BitVec.toNat_setWidth]
  have h := v.isLt
  have e : v.toInt = if 2 * v.toNat < 18446744073709551616 then (v.toNat : Int) else (v.toNat : Int) - 18446744073709551616 := BitVec.toInt_eq_toNat_cond v
  rw [e]
  split <;> omega
theorem s8_32 : (lShl v 32).setWidth 8 = 0#8 := by
  refine BitVec.eq_of_toNat_eq ?_
  show ((v <<< 32).setWidth 8).toNat = 0
  rw [BitVec.toNat_setWidth, BitVec.toNat_shiftLeft, Nat.shiftLeft_eq]
  omega
theorem s8_16 : (lShl v 16).setWidth 8 = 0#8 := by
  refine BitVec.eq_of_toNat_eq ?_
  show ((v <<< 16).setWidth 8).toNat = 0
  rw [BitVec.toNat_setWidth, BitVec.toNat_shiftLeft, Nat.shiftLeft_eq]
  omega
theorem s8_i (h : x % 256 = 0) : (iL (w32 x)).setWidth 8 = 0#8 := by
  refine BitVec.eq_of_toNat_eq ?_
  show ((BitVec.ofInt 64 (x.bmod 4294967296)).setWidth 8).toNat = 0
  rw [BitVec.toNat_setWidth, BitVec.toNat_ofInt, Int.bmod_def]
  split <;> omega
theorem s8_d : (iL (iShl d 8)).setWidth 8 = 0#8 := by
  show (iL (w32 (d * 256))).setWidth 8 = 0#8
  exact s8_i (by omega)
theorem s8_s : (iL (iShl d 12)).setWidth 8 = 0#8 := by
  show (iL (w32 (d * 4096))).setWidth 8 = 0#8
  exact s8_i (by omega)
theorem fOp_w (h : 0 ≤ op ∧ op < 256) : fOp (wdR op d s f im) = op := by
  rw [fO8]
  unfold wdR
  rw [BitVec.setWidth_or, BitVec.setWidth_or, BitVec.setWidth_or, BitVec.setWidth_or, s8_32, s8_16, s8_s, s8_d]
  rw [BitVec.zero_or, BitVec.zero_or, BitVec.zero_or, BitVec.zero_or, BitVec.toNat_setWidth]
  show (((BitVec.ofInt 64 op).toNat % 2 ^ 8 : Nat) : Int) = op
  rw [BitVec.toNat_ofInt]
  omega
theorem whz : lShl (0#64 &&& iL 65535) 16 = 0#64 := by decide
/-- WHERE -/
theorem T159 (h : cG σ t n m k) (hw : gL σ 18 14 = W) (h18 : gI σ 18 18 = -1) : okc (MM 159 [mR (some 18), mI x] σ) (some (mI (rVc (pWh t (tks t n) (iL x) k)))) (fun τ => oR (pWh t (tks t n) (iL x) k) (cE σ τ) (fun q => cqW τ σ ∧ gI τ 18 8 = (q.2 : Int) ∧ q.2 ≤ m ∧ gI τ 18 18 = whI q.1.1 ∧ gL τ 18 14 = W ||| (if wdO (fOp W) = 0 then lShl (q.1.2 &&& iL 65535) 16 else lShl q.1.2 32))) := by
  obtain ⟨a1, a2, a3, a4, a5⟩ := cG_tk h h.2.2.1
  have km := cG_m h
  unfold pWh
  rw [M159, e159_0, h.2.1, if_pos (g20' km), Int.toNat_natCast, a1]
  by_cases c2 : tK (tks t n k) = 2
  · have k1 : kC (tks t n k) = 1 := by rw [kc_2']; exact c2
    have rr := rgR_r (t := t) (X := tks t n k)
    rw [if_neg (fun z => z k1), if_pos c2, T149 h]
    simp only [Option.bind_some, Option.toList_some, Option.toList_none, List.cons_append, List.nil_append]
    rw [e159_17]
    by_cases c0 : 0 ≤ rgR t (tks t n k)
    · rw [if_pos c0, if_neg (show ¬ rgR t (tks t n k) = -1 by omega), T144 h]
      simp only [Option.bind_some, Option.toList_some, Option.toList_none, List.cons_append, List.nil_append]
      rw [e159_25, if_pos bl0]
      exact okc_s (cE_m h (ccq_r _))
    · have lt := cG_lt h (by rw [c2]; decide)
      rw [if_neg c0, if_pos (show rgR t (tks t n k) = -1 by omega), gI_sI, if_neg (show ¬ ((18 : Nat) = 18 ∧ (8 : Nat) = 18) by omega), h.2.1, w32_s1 (show k < 100000 by omega)]
      refine okc_s ⟨cqW_t (cqW_A cqA_8) cqW_18, h8, lt, ?_, ?_⟩
      · rw [gI_sI, if_neg (by omega), gI_sI, if_pos ⟨rfl, rfl⟩]
        rfl
      · rw [gL_sI, gL_sI, hw]
        have e : (if wdO (fOp W) = 0 then lShl (0#64 &&& iL 65535) 16 else lShl 0#64 32) = 0#64 := by
          rw [whz, z_shl]
          split <;> rfl
        show W = W ||| (if wdO (fOp W) = 0 then lShl (0#64 &&& iL 65535) 16 else lShl 0#64 32)
        rw [e, BitVec.or_zero]
  · have k1 : ¬ kC (tks t n k) = 1 := by rw [kc_2']; exact c2
    rw [if_pos k1, if_neg c2, T147 (s := 45) h (by decide) (by decide)]
    simp only [Option.bind_some, Option.toList_some, Option.toList_none, List.cons_append, List.nil_append]
    rw [e159_52]
    have main : ∀ M : Int, M = mnS (tks t n) k → (sgn (tks t n) 45 k ∨ sgn (tks t n) 43 k) → okc (RR (lkB tb159) (B159_71, [some (mR (some 18)), some (mI x), some (mI M), none, none], [], σ)) (some (mI (rVc (bS (pNum (tks t n) (if mnS (tks t n) k = 0 then iL x else iL x + 1) (k + 1)) fun k2 => .inr (((none, sgV (mnS (tks t n) k) (tV (tks t n (k + 1)))), k2) : (Option Nat × B64) × Nat))))) (fun τ => oR (bS (pNum (tks t n) (if mnS (tks t n) k = 0 then iL x else iL x + 1) (k + 1)) fun k2 => .inr (((none, sgV (mnS (tks t n) k) (tV (tks t n (k + 1)))), k2) : (Option Nat × B64) × Nat)) (cE σ τ) (fun q => cqW τ σ ∧ gI τ 18 8 = (q.2 : Int) ∧ q.2 ≤ m ∧ gI τ 18 18 = whI q.1.1 ∧ gL τ 18 14 = W ||| (if wdO (fOp W) = 0 then lShl (q.1.2 &&& iL 65535) 16 else lShl q.1.2 32))) := fun M hM cs => by
      have l1 := cG_lt h (by rcases cs with u | u <;> rw [u.1] <;> decide)
      have h1 : cG (sI σ 18 8 ((k + 1 : Nat) : Int)) t n m (k + 1) := cG_8 h l1
      have f1 : cqA (sI σ 18 8 ((k + 1 : Nat) : Int)) σ := cqA_8
      have w1 : gL (sI σ 18 8 ((k + 1 : Nat) : Int)) 18 14 = W := hw
      have p1 := cG_m h1
      rw [← hM]
      obtain ⟨Y, hY⟩ : ∃ Y, Y = if M = 0 then iL x else iL x + 1 := ⟨_, rfl⟩
      rw [← hY]
      obtain ⟨G, hG⟩ : ∃ G, G = gL (sI σ 18 8 ((k + 1 : Nat) : Int)) 23 (k + 1) := ⟨_, rfl⟩
      have gv : tK (tks t n (k + 1)) = 3 → G = tV (tks t n (k + 1)) := fun k3 => hG.trans ((cG_tk h1 h1.2.2.1).2.2.2.1 k3)
      have s122 : RR (lkB tb159) (B159_71, [some (mR (some 18)), some (mI x), some (mI M), none, none], [], σ) = RR (lkB tb159) (B159_122, [some (mR (some 18)), some (mI x), some (mI M), some (mL (sgV M G)), none], [mL Y, mR (some 18)], sI σ 18 8 ((k + 1 : Nat) : Int)) := by
        rw [e159_71, h.2.1, w32_s1 (show k < 100000 by omega), h8, Int.toNat_natCast, ← hG, if_pos (g23' p1), if_pos (g23' p1), hY]
        unfold sgV
        by_cases cm : M = 0
        · rw [if_pos cm, if_pos cm, if_pos cm, e159_107, if_pos cm]
        · rw [if_neg cm, if_neg cm, if_neg cm, e159_107, if_neg cm]
          rfl
      rw [s122]
      clear s122 hG
      generalize sI σ 18 8 ((k + 1 : Nat) : Int) = ρ1 at *
      rw [e159_122, T157 h1]
      simp only [Option.bind_some, Option.toList_some, Option.toList_none, List.cons_append, List.nil_append]
      cases hp : pNum (tks t n) Y (k + 1) with
      | inl e =>
        have he : e = (tB (tks t n (k + 1)) : Int) := by
          unfold pNum at hp
          split at hp
          · cases hp
          · exact (Sum.inl.inj hp).symm
        show okc (RR (lkB tb159) (B159_125, [some (mR (some 18)), some (mI x), some (mI M), some (mL (sgV M G)), none], [mI 0], sI ρ1 18 9 e)) (some (mI 0)) _
        rw [e159_125, if_neg (fun z => z y00)]
        exact okc_s ⟨ccq_t (ccq_I (by omega)) (ccq_A f1), c9, by omega⟩
      | inr j2 =>
        have ej : j2 = k + 2 := mo_num hp
        subst ej
        have k3 : tK (tks t n (k + 1)) = 3 := by
          unfold pNum at hp
          split at hp
          · rename_i z; exact z.1
          · cases hp
        have l2 := cG_lt h1 (by rw [k3]; decide)
        rw [gv k3]
        show okc (RR (lkB tb159) (B159_125, [some (mR (some 18)), some (mI x), some (mI M), some (mL (sgV M (tV (tks t n (k + 1))))), none], [mI 1], sI ρ1 18 8 ((k + 2 : Nat) : Int))) (some (mI 1)) _
        rw [e159_125, if_pos n10, gL_sI, w1, T0]
        simp only [Option.bind_some, Option.toList_some, Option.toList_none, List.cons_append, List.nil_append]
        rw [e159_142, T155]
        simp only [Option.bind_some, Option.toList_some, Option.toList_none, List.cons_append, List.nil_append]
        rw [e159_146]
        refine okc_s ⟨cqW_t (cqW_A cqA_L) (cqW_A (cqA_t cqA_8 f1)), by rw [gI_sL, h8], l2, ?_, ?_⟩
        · show gI (sI ρ1 18 8 ((k + 2 : Nat) : Int)) 18 18 = -1
          rw [gI_sI, if_neg (by omega), f1.1 _ _ (by omega), h18]
        · rw [h14]
    by_cases cs : sgn (tks t n) 45 k
    · rw [b2_yes cs, if_pos n10, if_pos (show sgn (tks t n) 45 k ∨ sgn (tks t n) 43 k from Or.inl cs)]
      exact main 1 (mn_1 cs).1.symm (Or.inl cs)
    · rw [b2_no cs, if_neg (fun z => z y00), T147 (s := 43) h (by decide) (by decide)]
      simp only [Option.bind_some, Option.toList_some, Option.toList_none, List.cons_append, List.nil_append]
      rw [e159_63]
      by_cases cp : sgn (tks t n) 43 k
      · rw [b2_yes cp, if_pos n10, if_pos (show sgn (tks t n) 45 k ∨ sgn (tks t n) 43 k from Or.inr cp)]
        exact main 0 (mn_0 cs).1.symm (Or.inr cp)
      · rw [b2_no cp, if_neg (fun z => z y00), if_neg (show ¬ (sgn (tks t n) 45 k ∨ sgn (tks t n) 43 k) from fun z => z.elim cs cp), T144 h]
        simp only [Option.bind_some, Option.toList_some, Option.toList_none, List.cons_append, List.nil_append]
        rw [e159_70, if_pos bl0]
        exact okc_s (cE_m h (ccq_r _))
/-- a source -/
theorem T176 (h : cG σ t n m k) (hw : gL σ 18 14 = W) : okc (MM 176 [mR (some 18), mI (rgR t (tks t n k))] σ) (some (mI (rVc (pRgt t (tks t n) 0 k)))) (fun τ => oR (pRgt t (tks t n) 0 k) (cE σ τ) (fun q => cqA τ σ ∧ gI τ 18 8 = (q.2 : Int) ∧ q.2 ≤ m ∧ gL τ 18 14 = W ||| iL (iShl q.1 12))) := by
  have rr := rgR_r (t := t) (X := tks t n k)
  have rk := rgR_n (t := t) (X := tks t n k)
  have km := cG_m h
  unfold pRgt
  generalize rgR t (tks t n k) = R at *
  rw [M176, e176_0]
  have s11 : RR (lkB tb176) (B176_11, [some (mR (some 18)), some (mI R)], [], σ) = some (some (mI 0), sI σ 18 9 (tB (tks t n k) : Int)) := by
    rw [e176_11, T144 h]
    simp only [Option.bind_some, Option.toList_some, Option.toList_none, List.cons_append, List.nil_append]
    rw [e176_15, if_pos bl0]
  rw [s11]
  by_cases c4 : R < 0 ∨ ¬ (if R < 16 then (0 : Int) else 1) = 0
  · rw [if_pos c4]
    by_cases a1 : R = -1
    · rw [if_pos a1]
      exact okc_s (cE_m h (ccq_r _))
    · rw [if_neg a1, if_neg (show ¬ R < 16 from fun b => c4.elim (fun z => by omega) (fun z => z (if_pos b)))]
      exact okc_s (cE_m h (ccq_r _))
  · have r16 : R < 16 := Classical.byContradiction fun b => c4 (Or.inr fun z => by rw [if_neg b] at z; cases z)
    have lt := cG_lt h (by rw [rk (by omega)]; decide)
    rw [if_neg c4, if_neg (show ¬ R = -1 by omega), if_pos r16, and15' (show 0 ≤ R ∧ R ≤ 10 by omega), hw, gI_sL, h.2.1, w32_s1 (show k < 100000 by omega)]
    exact okc_s ⟨cqA_t cqA_8 cqA_L, h8, lt, by rw [gL_sI, h14]⟩
end CWH
