/-! ===== the reference's runs: how a store stands for a machine of places ===== -/
abbrev enR (v : SV) : B64 := enG adR v
/-- a value lies in a register -/
def vlR (σ : MS) (j : Nat) (v : SV) : Prop := okSV v ∧ (¬ v.1 = 6 → gL σ 146 j = enR v)
def rgsR (σ : MS) (c : TC WR) : Prop := (∀ f r, f < cN c → r < 10 → vlR σ (11 * f + r) (cR c f r)) ∧ ∀ f, f < cN c → gL σ 146 (11 * f + 10) = enR (f + 2, 128#64)
def mbR (y : Int) (m : MB) : Prop := (m.1 = 1 → byW y = m.2.2) ∧ (2 ≤ m.1 → m.1 ≤ 9 → byW y = byJ (enR (m.2.1, m.2.2)) (m.1 - 2) ∧ okSV (m.2.1, m.2.2) ∧ ¬ m.2.1 = 6)
def stkR (σ : MS) (c : TC WR) : Prop := ∀ f b, f < 4 → b < 128 → mbR (gI σ 147 (128 * f + b)) (cS c f b)
def bckR (σ : MS) (c : TC WR) : Prop := ∀ f, 1 ≤ f → f < cN c → gI σ 148 (f - 1) = cB c f
/-- what the rest of the machine is, in the store -/
abbrev wrT (k s : Nat) : Prop := k = 85 ∨ (95 ≤ k ∧ k ≤ 109) ∨ k = 144 ∨ k = 145 ∨ (149 ≤ k ∧ k ≤ 152) ∨ (k = 80 ∧ (s = 105 ∨ s = 106 ∨ s = 107 ∨ s = 110 ∨ s = 113 ∨ s = 122))
def wldR (σ : MS) (w : WR) : Prop := (∀ k s, wrT k s → wg w k s = gI σ k s) ∧ w.2.1 = gL σ 80 108 ∧ w.2.2 = gL σ 80 111
def RelR (σ : MS) (c : TC WR) : Prop := ((1 ≤ cN c ∧ cN c ≤ 4) ∧ gI σ 80 117 = (cN c : Int) - 1) ∧ rgsR σ c ∧ stkR σ c ∧ bckR σ c ∧ wldR σ (cW c)
/-- where a register is -/
abbrev rpR (c : TC WR) (r : Nat) : Nat := 11 * (cN c - 1) + r
section RREL
variable {σ τ ρ : MS} {c c' : TC WR} {v : SV} {w x : B64} {r f b k n o : Nat} {l : List B64}
theorem okBs_R (h : o < 400) : okBs adR o := by
  unfold okBs adR
  rw [iLt (by omega) (by omega)]
  omega
/-- what doesn't matter -/
theorem RelR_q (h1 : gI τ 80 117 = gI σ 80 117) (h2 : ∀ s, gL τ 146 s = gL σ 146 s) (h3 : ∀ s, gI τ 147 s = gI σ 147 s) (h4 : ∀ s, gI τ 148 s = gI σ 148 s) (h5 : ∀ k s, wrT k s → gI τ k s = gI σ k s) (h6 : gL τ 80 108 = gL σ 80 108) (h7 : gL τ 80 111 = gL σ 80 111) (h : RelR σ c) : RelR τ c := by
  obtain ⟨⟨a1, a2⟩, ⟨b1, b2⟩, d, e, ⟨g1, g2, g3⟩⟩ := h
  refine ⟨⟨a1, h1.trans a2⟩, ⟨fun f r hf hr => ⟨(b1 f r hf hr).1, fun z => (h2 _).trans ((b1 f r hf hr).2 z)⟩, fun f hf => (h2 _).trans (b2 f hf)⟩, fun f b hf hb => ?_, fun f f1 f2 => (h4 _).trans (e f f1 f2), ⟨fun k s p => (g1 k s p).trans (h5 k s p).symm, g2.trans h6.symm, g3.trans h7.symm⟩⟩
  rw [h3]
  exact d f b hf hb
theorem RelR_i {s : Nat} {y : Int} (h : RelR σ c) (hs : s = 123 ∨ s = 124 ∨ s = 54) : RelR (sI σ 80 s y) c := by
  have g : ∀ k' s', ¬ (k' = 80 ∧ s' = s) → gI (sI σ 80 s y) k' s' = gI σ k' s' := fun k' s' q => by rw [gI_sI, if_neg q]
  exact RelR_q (g _ _ (by omega)) (fun _ => rfl) (fun _ => g _ _ (by omega)) (fun _ => g _ _ (by omega)) (fun k s p => g _ _ (by omega)) rfl rfl h
/-- the place of a register -/
theorem T550 {F : Nat} (h : gI σ 80 117 = (F : Int)) (hF : F < 4) (hr : r < 11) : MM 550 [mR (some 80), mI (r : Int)] σ = some (some (mI ((11 * F + r : Nat) : Int)), σ) := by
  have e : w32 (w32 (11 * (F : Int)) + (r : Int)) = ((11 * F + r : Nat) : Int) := by
    rw [w32_i (x := 11 * (F : Int)) (by omega) (by omega), w32_i (by omega) (by omega)]
    omega
  simp only [M550, e550_0, h, e]
theorem relF (h : RelR σ c) : gI σ 80 117 = ((cN c - 1 : Nat) : Int) ∧ cN c - 1 < 4 := by
  obtain ⟨⟨a1, a2⟩, _⟩ := h
  omega
theorem T550r (h : RelR σ c) (hr : r < 11) : MM 550 [mR (some 80), mI (r : Int)] σ = some (some (mI ((rpR c r : Nat) : Int)), σ) := T550 (relF h).1 (relF h).2 hr
/-- a register is read -/
theorem rd_R (h : RelR σ c) (hr : r ≤ 10) (z : ¬ (rdR c r).1 = 6) : gL σ 146 (rpR c r) = enR (rdR c r) ∧ okSV (rdR c r) := by
  obtain ⟨⟨⟨a1, a2⟩, _⟩, ⟨b1, b2⟩, _⟩ := h
  unfold rdR at z ⊢
  by_cases e : r = 10
  · rw [if_pos e]
    have := b2 (cN c - 1) (by omega)
    rw [show cN c - 1 + 2 = cN c + 1 by omega] at this
    refine ⟨by rw [e]; exact this, okSV_p (Or.inl (by omega))⟩
  · rw [if_neg e] at z ⊢
    have := b1 (cN c - 1) r (by omega) (by omega)
    exact ⟨this.2 z, this.1⟩
/-- a register is written -/
theorem wr_R (h : RelR σ c) (hr : r < 10) (e : x = enR v) (k : okSV v) : RelR (sL σ 146 (rpR c r) x) (wrR c r v) := by
  obtain ⟨⟨⟨a1, a2⟩, a3⟩, ⟨b1, b2⟩, d, e', ⟨g1, g2, g3⟩⟩ := h
  refine ⟨⟨⟨a1, a2⟩, a3⟩, ⟨fun f r' hf hr' => ?_, fun f hf => ?_⟩, d, e', ⟨g1, ?_, ?_⟩⟩
  · have hf : f < cN c := hf
    show vlR (sL σ 146 (rpR c r) x) (11 * f + r') (if f = cN c - 1 ∧ r' = r then v else cR c f r')
    by_cases q : f = cN c - 1 ∧ r' = r
    · rw [if_pos q]
      refine ⟨k, fun _ => ?_⟩
      rw [gL_sL, if_pos ⟨rfl, by rw [q.1, q.2]⟩]
      exact e
    · rw [if_neg q]
      refine ⟨(b1 f r' hf hr').1, fun z => ?_⟩
      have ne : ¬ 11 * f + r' = rpR c r := fun z => by
        have z : 11 * f + r' = 11 * (cN c - 1) + r := z
        omega
      rw [gL_sL, if_neg (fun y => ne y.2)]
      exact (b1 f r' hf hr').2 z
  · have hf : f < cN c := hf
    have ne : ¬ 11 * f + 10 = rpR c r := fun z => by
      have z : 11 * f + 10 = 11 * (cN c - 1) + r := z
      omega
    rw [gL_sL, if_neg (fun y => ne y.2)]
    exact b2 f hf
  · rw [gL_sL, if_neg (by omega)]
    exact g2
  · rw [gL_sL, if_neg (by omega)]
    exact g3
/-! bytes that are put -/
def wrS (σ : MS) (o : Nat) : Nat → List B64 → MS
  | _, [] => σ
  | b, v :: t => wrS (sI σ (cellR o) (plcR o b) (kpW v)) o (b + 1) t
theorem kpW_by (x : B64) (k : Nat) (hk : k < 8) : w8 (iAnd (lI (lUsh x (w32 (8 * (k : Int))))) 255) = kpW (byJ x k) := by
  have e1 : w32 (8 * (k : Int)) = ((8 * k : Nat) : Int) := by
    rw [w32_i (by omega) (by omega)]
    omega
  have e2 : lUsh x ((8 * k : Nat) : Int) = x >>> (8 * k) := by
    unfold lUsh
    rw [show (((8 * k : Nat) : Int) % 64).toNat = 8 * k by omega]
  rw [e1, e2, iAnd255]
  unfold kpW byJ
  have e3 : ((x >>> (8 * k)) &&& 255#64).toInt = lI (x >>> (8 * k)) % 256 := by
    have n1 : ((x >>> (8 * k)) &&& 255#64).toNat = (x >>> (8 * k)).toNat % 256 := by
      rw [BitVec.toNat_and]
      exact Nat.and_two_pow_sub_one_eq_mod _ 8
    have n2 := toInt_c ((x >>> (8 * k)) &&& 255#64)
    rw [n1, if_pos (by omega)] at n2
    rw [n2]
    unfold lI w32
    have n3 := toInt_c (x >>> (8 * k))
    rw [Int.bmod_def]
    split at n3 <;> split <;> omega
  rw [e3]
theorem L556 {x6 : Option MV} {n : Nat} (hn : n ≤ 8) : ∀ (f j : Nat) (σ : MS), j + f = n → (∀ i, j ≤ i → i < n → obR o (b + i)) → RR (lkB tb556) (B556_3, [some (mR (some 80)), some (mL (adR o + BitVec.ofNat 64 b)), none, some (mI (n : Int)), some (mL x), none, some (mI (j : Int))], [], σ) = some (none, wrS σ o (b + j) ((List.range' j f).map (byJ x))) := by
  intro f
  induction f with
  | zero =>
    intro j σ e _
    rw [e556_3, if_pos (by omega)]
    rfl
  | succ f ih =>
    intro j σ e h
    have hj := h j (Nat.le_refl _) (by omega)
    have t := T554 (σ := σ) (v := iAnd (lI (lUsh x (w32 (8 * (j : Int))))) 255) hj
    rw [kpW_by x j (by omega)] at t
    have z := ih (j + 1) (sI σ (cellR o) (plcR o (b + j)) (kpW (byJ x j))) (by omega) (fun i h1 h2 => h i (by omega) h2)
    have e3 : w32 ((j : Int) + 1) = ((j + 1 : Nat) : Int) := w32_s (by omega)
    rw [e556_3, if_neg (by omega), ad_s, nat_s, t]
    simp only [Option.bind_some, Option.toList_none, List.nil_append, e556_31, e3]
    exact z
theorem T556 (hn : n ≤ 8) (h : ∀ i, i < n → obR o (b + i)) : MM 556 [mR (some 80), mL (adR o + BitVec.ofNat 64 b), mI (n : Int), mL x] σ = some (none, wrS σ o b (bysN x n)) := by
  have z := L556 (x := x) (x6 := none) (o := o) (b := b) hn n 0 σ (by omega) (fun i _ h2 => h i h2)
  rw [M556, e556_0]
  have e : bysN x n = (List.range' 0 n).map (byJ x) := by
    unfold bysN
    rw [List.range_eq_range']
  rw [e]
  exact z
/-- the registers of a frame begin -/
theorem T552 {F : Nat} (h : gI σ 80 117 = (F : Int)) (hF : F < 4) : okc (MM 552 [mR (some 80)] σ) none (fun τ => (∀ s, ¬ (11 * F ≤ s ∧ s ≤ 11 * F + 10) → gL τ 146 s = gL σ 146 s) ∧ (∀ k s, ¬ k = 146 → gL τ k s = gL σ k s) ∧ τ.1 = σ.1 ∧ τ.2.2 = σ.2.2 ∧ gL τ 146 (11 * F + 10) = enR (F + 2, 128#64)) := by
  have key : ∀ (f r : Nat) (ρ : MS), r + f = 10 → ρ.1 = σ.1 ∧ ρ.2.2 = σ.2.2 ∧ (∀ k s, ¬ (k = 146 ∧ 11 * F ≤ s ∧ s ≤ 11 * F + 10) → gL ρ k s = gL σ k s) → okc (RR (lkB tb552) (B552_2, [some (mR (some 80)), some (mI (r : Int))], [], ρ)) none (fun τ => τ.1 = σ.1 ∧ τ.2.2 = σ.2.2 ∧ (∀ k s, ¬ (k = 146 ∧ 11 * F ≤ s ∧ s ≤ 11 * F + 10) → gL τ k s = gL σ k s) ∧ gL τ 146 (11 * F + 10) = enR (F + 2, 128#64)) := by
    intro f
    induction f with
    | zero =>
      intro r ρ e q
      have e : r = 10 := by omega
      subst e
      have g1 : gI ρ 80 117 = (F : Int) := by
        unfold gI
        rw [q.1]
        exact h
      have t := T550 (r := 10) g1 hF (by decide)
      have t2 := T549 (σ := ρ) (x := 2 + (F : Int)) (k := 128)
      have w2 : w32 (2 + (F : Int)) = 2 + (F : Int) := w32_i (by omega) (by omega)
      have b0 : 0 ≤ ((11 * F + 10 : Nat) : Int) ∧ ((11 * F + 10 : Nat) : Int) < 44 := by omega
      refine okc_o (τ := sL ρ 146 (11 * F + 10) (iL (1048576 * (2 + (F : Int)) + 524288 + 128))) ?_ ⟨q.1, q.2.1, fun k s p => ?_, ?_⟩
      · have t' : MM 550 [mR (some 80), mI 10] ρ = some (some (mI ((11 * F + 10 : Nat) : Int)), ρ) := t
        rw [e552_2]
        simp only [e552_35, e552_47, Option.getD_some, Option.bind_some, Option.toList_some, Option.toList_none, List.cons_append, List.nil_append, and_self, and_true, true_and, false_and, and_false, ite_self, not_true_eq_false, not_false_eq_true, reduceIte, Nat.reduceEqDiff, ab_I, ab_L, ab_R, ao_I, ao_L, ao_R, gL_sL, gI_sI, gR_sR, gI_sL, gI_sR, gL_sI, gL_sR, gR_sI, gR_sL, show (10 : Int) ≤ ((10 : Nat) : Int) by decide, t', g1, w2, t2, g_146, b0.1, b0.2, Int.toNat_natCast]
      · rw [gL_sL, if_neg (by omega)]
        exact q.2.2 k s p
      · rw [gL_sL, if_pos ⟨rfl, rfl⟩]
        show _ = enG adR (F + 2, 128#64)
        rw [enG_n (show ¬ F + 2 = 0 by omega)]
        rw [show (128#64 : B64) = BitVec.ofNat 64 128 from rfl, ad_i]
        exact congrArg iL (by omega)
    | succ f ih =>
      intro r ρ e q
      have g1 : gI ρ 80 117 = (F : Int) := by
        unfold gI
        rw [q.1]
        exact h
      have t := T550 (r := r) g1 hF (by omega)
      have b0 : 0 ≤ ((11 * F + r : Nat) : Int) ∧ ((11 * F + r : Nat) : Int) < 44 := by omega
      have nl : ¬ 10 ≤ (r : Int) := by omega
      have ww : w32 ((r : Int) + 1) = ((r + 1 : Nat) : Int) := w32_s (by omega)
      have z := ih (r + 1) (sL ρ 146 (11 * F + r) (BitVec.ofNat 64 0)) (by omega) ⟨q.1, q.2.1, fun k s p => by
        rw [gL_sL, if_neg (by omega)]
        exact q.2.2 k s p⟩
      rw [e552_2]
      simp only [e552_17, Option.getD_some, Option.bind_some, Option.toList_some, Option.toList_none, List.cons_append, List.nil_append, and_self, and_true, true_and, false_and, and_false, ite_self, not_true_eq_false, not_false_eq_true, reduceIte, Nat.reduceEqDiff, ab_I, ab_L, ab_R, ao_I, ao_L, ao_R, gL_sL, gI_sI, gR_sR, gI_sL, gI_sR, gL_sI, gL_sR, gR_sI, gR_sL, nl, t, g_146, b0.1, b0.2, Int.toNat_natCast, ww]
      exact z
  obtain ⟨τ, t, q1, q2, q3, q4⟩ := key 10 0 σ rfl ⟨rfl, rfl, fun _ _ _ => rfl⟩
  refine okc_o (τ := τ) ?_ ⟨fun s p => q3 _ _ (by omega), fun k s p => q3 _ _ (by omega), q1, q2, q4⟩
  rw [M552, e552_0]
  exact t
end RREL
