/-! ===== the reference's runs: stores, exchanges ===== -/
section RSTO
variable {σ τ ρ : MS} {c c' : TC WR} {v : SV} {w x A a : B64} {r f b k n o s i : Nat} {l : List B64} {y : Int}
/-- up to the address -/
theorem L560c (h : RelR σ c) (h1 : ¬ fL w = 1) (hd : fD w ≤ 10) (ha : gL σ 146 (rpR c (dR w)) = a) : MM 560 [mR (some 80), mL w, mI (fOp w)] σ = RR (lkB tb560) (B560_169, [some (mR (some 80)), some (mL w), none, some (mI (fOp w)), some (mI ((bytN w : Nat) : Int)), some (mI (fM w)), some (mL (a + iL (fO w))), none, none, none, none, none, none, none], [mI (fI w)], σ) := by
  have fr := fld_rng w
  have eD : fD w = ((dR w : Nat) : Int) := by show fD w = ((fD w).toNat : Int); omega
  have F4 := (relF h).2
  have d10 : dR w ≤ 10 := by show (fD w).toNat ≤ 10; omega
  have ts := T550r h (r := dR w) (by omega)
  have t333 : MM 333 [mL w] σ = some (some (mI ((dR w : Nat) : Int)), σ) := by rw [T333, eD]
  have bS : 0 ≤ ((rpR c (dR w) : Nat) : Int) ∧ ((rpR c (dR w) : Nat) : Int) < 44 := by
    show 0 ≤ ((11 * (cN c - 1) + dR w : Nat) : Int) ∧ ((11 * (cN c - 1) + dR w : Nat) : Int) < 44
    omega
  have w7 : ¬ iAnd (fOp w) 7 = 1 := by rw [m7 w]; exact h1
  have w224 : iAnd (fOp w) 224 = fM w := m224 w
  simp only [M560, e560_0, e560_4, e560_153, e560_156, e560_161, Option.getD_some, Option.bind_some, Option.toList_some, Option.toList_none, List.cons_append, List.nil_append, and_self, and_true, true_and, false_and, and_false, ite_self, not_true_eq_false, not_false_eq_true, reduceIte, Nat.reduceEqDiff, ab_I, ab_L, ab_R, ao_I, ao_L, ao_R, gL_sL, gI_sI, gR_sR, gI_sL, gI_sR, gL_sI, gL_sR, gR_sI, gR_sL, T508, w7, w224, t333, ts, g_146, bS.1, bS.2, Int.toNat_natCast, T335, T336, ha, not_false_eq_true]
/-- what is stored -/
def stvR (σ : MS) (c : TC WR) (w : B64) : B64 := if fL w = 3 then gL σ 146 (rpR c (sRr w)) else iL (fI w)
theorem L560d (h : RelR σ c) (h23 : fL w = 2 ∨ fL w = 3) (m96 : fM w = 96) (hs : fS w ≤ 10) (t6 : MM 556 [mR (some 80), mL A, mI ((bytN w : Nat) : Int), mL (stvR σ c w)] σ = some (none, τ)) : RR (lkB tb560) (B560_169, [some (mR (some 80)), some (mL w), none, some (mI (fOp w)), some (mI ((bytN w : Nat) : Int)), some (mI (fM w)), some (mL A), none, none, none, none, none, none, none], [mI (fI w)], σ) = some (none, τ) := by
  have fr := fld_rng w
  unfold stvR at t6
  rcases h23 with h2 | h3
  · rw [if_neg (by omega)] at t6
    have w7 : iAnd (fOp w) 7 = 2 := (m7 w).trans h2
    simp only [e560_169, e560_210, e560_213, Option.getD_some, Option.bind_some, Option.toList_some, Option.toList_none, List.cons_append, List.nil_append, and_self, and_true, true_and, false_and, and_false, ite_self, not_true_eq_false, not_false_eq_true, reduceIte, Nat.reduceEqDiff, ab_I, ab_L, ab_R, ao_I, ao_L, ao_R, gL_sL, gI_sI, gR_sR, gI_sL, gI_sR, gL_sI, gL_sR, gR_sI, gR_sL, eq_true m96, not_true_eq_false, w7, t6]
  · rw [if_pos h3] at t6
    have w7 : iAnd (fOp w) 7 = 3 := (m7 w).trans h3
    have eS : fS w = ((sRr w : Nat) : Int) := by show fS w = ((fS w).toNat : Int); omega
    have F4 := (relF h).2
    have s10 : sRr w ≤ 10 := by show (fS w).toNat ≤ 10; omega
    have ts := T550r h (r := sRr w) (by omega)
    have t334 : MM 334 [mL w] σ = some (some (mI ((sRr w : Nat) : Int)), σ) := by rw [T334, eS]
    have bS : 0 ≤ ((rpR c (sRr w) : Nat) : Int) ∧ ((rpR c (sRr w) : Nat) : Int) < 44 := by
      show 0 ≤ ((11 * (cN c - 1) + sRr w : Nat) : Int) ∧ ((11 * (cN c - 1) + sRr w : Nat) : Int) < 44
      omega
    simp only [e560_169, e560_206, e560_209, e560_210, e560_213, Option.getD_some, Option.bind_some, Option.toList_some, Option.toList_none, List.cons_append, List.nil_append, and_self, and_true, true_and, false_and, and_false, ite_self, not_true_eq_false, not_false_eq_true, reduceIte, Nat.reduceEqDiff, ab_I, ab_L, ab_R, ao_I, ao_L, ao_R, gL_sL, gI_sI, gR_sR, gI_sL, gI_sR, gL_sI, gL_sR, gR_sI, gR_sL, eq_true m96, not_true_eq_false, w7, Int.reduceEq, not_false_eq_true, t334, ts, g_146, bS.1, bS.2, Int.toNat_natCast, t6]
theorem ea_R (h : RelR σ c) (hr : r ≤ 10) (n6 : ¬ (rdR c r).1 = 6) (n0 : ¬ (rdR c r).1 = 0) : gL σ 146 (rpR c r) + iL y = adR (rdR c r).1 + BitVec.ofNat 64 (offN (rdR c r).2 y).toNat := by
  obtain ⟨ra, rk⟩ := rd_R h hr n6
  rw [ra]
  show enG adR (rdR c r) + iL y = _
  rw [enG_p n0, BitVec.add_assoc, BitVec.ofNat_toNat, BitVec.setWidth_eq]
  rfl
theorem bys_len (x : B64) (n : Nat) : (bysN x n).length = n := (bys_lt x n).1
/-! what a run moves, and nothing else -/
abbrev movK (k s : Nat) : Prop := (100 ≤ k ∧ k ≤ 105) ∨ (107 ≤ k ∧ k ≤ 111) ∨ k = 144 ∨ k = 145 ∨ (147 ≤ k ∧ k ≤ 152) ∨ (k = 80 ∧ (s = 105 ∨ s = 106 ∨ s = 110 ∨ s = 113 ∨ s = 117 ∨ s = 122 ∨ s = 123 ∨ s = 124))
def mvR (σ τ : MS) : Prop := (∀ k s, ¬ movK k s → gI τ k s = gI σ k s) ∧ (∀ k s, ¬ k = 146 → ¬ (k = 80 ∧ (s = 108 ∨ s = 111)) → gL τ k s = gL σ k s) ∧ τ.2.2 = σ.2.2
theorem mvR_r : mvR σ σ := ⟨fun _ _ _ => rfl, fun _ _ _ _ => rfl, rfl⟩
theorem mvR_t (a : mvR σ τ) (b : mvR τ ρ) : mvR σ ρ := ⟨fun k s z => (b.1 k s z).trans (a.1 k s z), fun k s y z => (b.2.1 k s y z).trans (a.2.1 k s y z), b.2.2.trans a.2.2⟩
theorem mvR_I {k s : Nat} {x : Int} (h : movK k s) : mvR σ (sI σ k s x) := ⟨fun k' s' z => by
  rw [gI_sI, if_neg (fun e => z (by rw [e.1, e.2]; exact h))], fun _ _ _ _ => rfl, rfl⟩
theorem mvR_L {s : Nat} {x : B64} : mvR σ (sL σ 146 s x) := ⟨fun _ _ _ => rfl, fun k' s' z _ => by
  rw [gL_sL, if_neg (fun e => z e.1)], rfl⟩
theorem mvR_w {b' : Nat} (h : obR o b') : mvR σ (wrS σ o b l) := ⟨fun k s z => by
  have := cell_R h
  rw [wrS_g, if_neg (fun e => z (by omega))], fun k s _ _ => wrS_L, by rw [wrS_2]⟩
/-- a store -/
theorem st_R (h : RelR σ c) (hw : okMem w) (h23 : fL w = 2 ∨ fL w = 3) (m96 : fM w = 96) (e : stoT RB RH c w = some c') : ∃ τ, MM 560 [mR (some 80), mL w, mI (fOp w)] σ = some (none, τ) ∧ RelR τ c' ∧ (∀ s, ¬ (s = 106) → gI τ 80 s = gI σ 80 s) ∧ mvR σ τ := by
  have hw' := hw
  unfold okMem at hw'
  rw [if_neg (by omega)] at hw'
  have ds : fD w ≤ 10 ∧ fS w ≤ 10 := by
    by_cases h2 : fL w = 2
    · rw [if_pos h2] at hw'
      exact ⟨hw'.2.1, by omega⟩
    · rw [if_neg h2, if_pos m96] at hw'
      exact ⟨hw'.1, hw'.2.1⟩
  have d10 : dR w ≤ 10 := by show (fD w).toNat ≤ 10; have := fld_rng w; omega
  have s10 : sRr w ≤ 10 := by show (fS w).toNat ≤ 10; have := fld_rng w; omega
  have b8 := byt_1 w
  have s169 := L560c h (by omega) ds.1 rfl
  unfold stoT at e
  obtain ⟨sv, hsv⟩ : ∃ sv : SV, sv = (if fL w = 3 then rdR c (sRr w) else (0, BitVec.ofInt 64 (fI w))) := ⟨_, rfl⟩
  have e : (if (rdR c (dR w)).1 = 1 then (if bytN w = 4 ∧ fO w = 12 ∧ sv.1 = 0 then some (cP c, cN c, cR c, cS c, cB c, RH.2.1 (cW c) sv.2) else none)
      else if sv.1 = 0 then wrL RB c (rdR c (dR w)).1 (offN (rdR c (dR w)).2 (fO w)).toNat (bysN sv.2 (bytN w))
      else if ((2 ≤ (rdR c (dR w)).1 ∧ (rdR c (dR w)).1 ≤ 5) ∧ bytN w = 8) ∧ ((offN (rdR c (dR w)).2 (fO w)).toNat % 8 = 0 ∧ (offN (rdR c (dR w)).2 (fO w)).toNat < 128) ∧ ¬ sv.1 = 6 then some (wrP c ((rdR c (dR w)).1 - 2) (offN (rdR c (dR w)).2 (fO w)).toNat sv)
      else none) = some c' := by
    rw [hsv]
    exact e
  -- what is stored, as it lies there
  have sV : ¬ sv.1 = 6 → stvR σ c w = enR sv ∧ okSV sv := fun z => by
    unfold stvR
    rw [hsv] at z ⊢
    by_cases h3 : fL w = 3
    · rw [if_pos h3] at z ⊢
      rw [if_pos h3]
      exact rd_R h s10 z
    · rw [if_neg h3] at z ⊢
      rw [if_neg h3]
      exact ⟨enG_0.symm, okSV_0⟩
  by_cases c1 : (rdR c (dR w)).1 = 1
  · rw [if_pos c1] at e
    by_cases q : bytN w = 4 ∧ fO w = 12 ∧ sv.1 = 0
    · rw [if_pos q] at e
      have e := Option.some.inj e
      obtain ⟨ra, rk⟩ := rd_R h d10 (by omega)
      have r0 := rk.1 c1
      have ea : gL σ 146 (rpR c (dR w)) + iL (fO w) = adR 1 + BitVec.ofNat 64 12 := by
        rw [ra]
        show enG adR (rdR c (dR w)) + _ = _
        rw [enG_p (by omega), r0, c1, BitVec.add_zero, q.2.1]
        rfl
      obtain ⟨sv1, sk⟩ := sV (by omega)
      have sv2 : stvR σ c w = sv.2 := sv1.trans (enG_z q.2.2)
      have t6 : MM 556 [mR (some 80), mL (adR 1 + BitVec.ofNat 64 12), mI ((bytN w : Nat) : Int), mL (stvR σ c w)] σ = some (none, sI σ 80 106 (lI sv.2)) := by
        rw [sv2, q.1]
        exact T556c
      have t := L560d h h23 m96 ds.2 t6
      rw [ea] at s169
      obtain ⟨⟨a1, a2⟩, b', d, e', ⟨g1, g2, g3⟩⟩ := h
      have fr : ∀ k s, ¬ (k = 80 ∧ s = 106) → gI (sI σ 80 106 (lI sv.2)) k s = gI σ k s := fun k s z => by rw [gI_sI, if_neg z]
      refine ⟨_, s169.trans t, ?_, fun s z => fr _ _ (by omega), mvR_I (by omega)⟩
      rw [← e]
      refine ⟨⟨a1, (fr _ _ (by omega)).trans a2⟩, b', fun f b hf hb => ?_, fun f f1 f2 => (fr _ _ (by omega)).trans (e' f f1 f2), ⟨fun k s p => ?_, g2, g3⟩⟩
      · rw [fr _ _ (by omega)]
        exact d f b hf hb
      · show wg (wset (cW c) 80 106 (lI sv.2)) k s = _
        rw [wg_wset, gI_sI]
        by_cases z : k = 80 ∧ s = 106
        · rw [if_pos z, if_pos z]
        · rw [if_neg z, if_neg z]
          exact g1 k s p
    · rw [if_neg q] at e
      cases e
  · rw [if_neg c1] at e
    by_cases q0 : sv.1 = 0
    · rw [if_pos q0] at e
      obtain ⟨sv1, sk⟩ := sV (by omega)
      have sv2 : stvR σ c w = sv.2 := sv1.trans (enG_z q0)
      obtain ⟨ob, rel⟩ := wrL_R' _ _ σ c h (bys_lt sv.2 (bytN w)).2 e
      rw [bys_len] at ob
      have o0 := ob 0 (by omega)
      have ea := ea_R (y := fO w) h d10 (by omega) (by omega)
      have t6 := T556 (σ := σ) (x := sv.2) b8.2 ob
      rw [← sv2] at t6
      have t := L560d h h23 m96 ds.2 t6
      rw [ea] at s169
      rw [sv2] at t
      refine ⟨_, s169.trans t, rel, fun s z => ?_, mvR_w o0⟩
      rw [wrS_g, if_neg (fun y => by have := cell_R o0; omega)]
    · rw [if_neg q0] at e
      by_cases q : ((2 ≤ (rdR c (dR w)).1 ∧ (rdR c (dR w)).1 ≤ 5) ∧ bytN w = 8) ∧ ((offN (rdR c (dR w)).2 (fO w)).toNat % 8 = 0 ∧ (offN (rdR c (dR w)).2 (fO w)).toNat < 128) ∧ ¬ sv.1 = 6
      · rw [if_pos q] at e
        have e := Option.some.inj e
        obtain ⟨⟨⟨o2, o5⟩, n8⟩, ⟨al, lt⟩, n6⟩ := q
        obtain ⟨sv1, sk⟩ := sV n6
        have ea := ea_R (y := fO w) h d10 (by omega) (by omega)
        have ob : ∀ i, i < bytN w → obR (rdR c (dR w)).1 ((offN (rdR c (dR w)).2 (fO w)).toNat + i) := fun i hi => Or.inl ⟨⟨o2, o5⟩, by omega⟩
        have t6 := T556 (σ := σ) (x := enR sv) b8.2 ob
        rw [← sv1] at t6
        have t := L560d h h23 m96 ds.2 t6
        rw [ea] at s169
        rw [sv1, n8] at t
        have wr := wrP_R (f := (rdR c (dR w)).1 - 2) (b := (offN (rdR c (dR w)).2 (fO w)).toNat) h (by omega) (by omega) n6 sk
        rw [show (rdR c (dR w)).1 - 2 + 2 = (rdR c (dR w)).1 by omega] at wr
        rw [n8] at s169
        refine ⟨_, s169.trans t, by rw [← e]; exact wr, fun s z => ?_, mvR_w (ob 0 (by omega))⟩
        rw [wrS_g, if_neg (fun y => by have := cell_R (ob 0 (by omega)); omega)]
      · rw [if_neg q] at e
        cases e
/-! exchanges -/
theorem wrB_N (e : wrB RB c o b x = some c') : cN c' = cN c := by
  unfold wrB at e
  split at e
  · split at e
    · cases e; rfl
    · cases e
  · split at e
    · split at e
      · cases e; rfl
      · cases e
    · split at e
      · split at e
        · cases e; rfl
        · cases e
      · split at e
        · split at e
          · cases e; rfl
          · cases e
        · cases e
theorem wrL_N : ∀ (l : List B64) {b : Nat} {c c' : TC WR}, wrL RB c o b l = some c' → cN c' = cN c := by
  intro l
  induction l with
  | nil => intro b c c' e; cases e; rfl
  | cons v l ih =>
    intro b c c' e
    unfold wrL at e
    split at e
    · rename_i c1 h1
      exact (ih e).trans (wrB_N h1)
    · cases e
theorem x240 {i : Int} (h : (i = 0 ∨ i = 64 ∨ i = 80 ∨ i = 160 ∨ i = 241) ∨ (i = 1 ∨ i = 65 ∨ i = 81 ∨ i = 161 ∨ i = 225)) : iAnd i 240 = i / 16 * 16 ∧ iAnd i 1 = i % 2 := by
  refine ⟨?_, iAnd1 i⟩
  rcases h with (h | h | h | h | h) | (h | h | h | h | h) <;> subst h <;> decide
/-- an exchange -/
theorem sw_R (h : RelR σ c) (hw : okMem w) (h3 : fL w = 3) (m192 : fM w = 192) (e : swT RB c w = some c') : ∃ τ, MM 560 [mR (some 80), mL w, mI (fOp w)] σ = some (none, τ) ∧ RelR τ c' ∧ (∀ s, gI τ 80 s = gI σ 80 s) ∧ mvR σ τ := by
  have hw' := hw
  unfold okMem at hw'
  rw [if_neg (by omega), if_neg (by omega), if_neg (by omega)] at hw'
  obtain ⟨⟨oo, hd⟩, hi⟩ := hw'
  have hs : fS w ≤ 10 := by omega
  have fr := fld_rng w
  have d10 : dR w ≤ 10 := by show (fD w).toNat ≤ 10; omega
  have s10 : sRr w ≤ 10 := by show (fS w).toNat ≤ 10; omega
  have b8 := byt_1 w
  have F4 := (relF h).2
  have hx : (fI w = 0 ∨ fI w = 64 ∨ fI w = 80 ∨ fI w = 160 ∨ fI w = 241) ∨ (fI w = 1 ∨ fI w = 65 ∨ fI w = 81 ∨ fI w = 161 ∨ fI w = 225) := by omega
  obtain ⟨x1, x2⟩ := x240 hx
  have s169 := L560c h (by omega) hd rfl
  have eS : fS w = ((sRr w : Nat) : Int) := by show fS w = ((fS w).toNat : Int); omega
  have t334 : ∀ ρ : MS, MM 334 [mL w] ρ = some (some (mI ((sRr w : Nat) : Int)), ρ) := fun ρ => by rw [T334, eS]
  have bS : 0 ≤ ((rpR c (sRr w) : Nat) : Int) ∧ ((rpR c (sRr w) : Nat) : Int) < 44 := by
    show 0 ≤ ((11 * (cN c - 1) + sRr w : Nat) : Int) ∧ ((11 * (cN c - 1) + sRr w : Nat) : Int) < 44
    omega
  have b0 : 0 ≤ ((rpR c 0 : Nat) : Int) ∧ ((rpR c 0 : Nat) : Int) < 44 := by
    show 0 ≤ ((11 * (cN c - 1) + 0 : Nat) : Int) ∧ ((11 * (cN c - 1) + 0 : Nat) : Int) < 44
    omega
  unfold swT at e
  by_cases n0 : ¬ (rdR c (sRr w)).1 = 0
  · rw [if_pos n0] at e
    cases e
  · rw [if_neg n0] at e
    have z0 : (rdR c (sRr w)).1 = 0 := Decidable.byContradiction n0
    obtain ⟨sa, _⟩ := rd_R h s10 (by omega)
    have sa : gL σ 146 (rpR c (sRr w)) = (rdR c (sRr w)).2 := sa.trans (enG_z z0)
    cases el : rdL RB c (rdR c (dR w)).1 (offN (rdR c (dR w)).2 (fO w)).toNat (bytN w) with
    | none =>
      rw [el] at e
      cases e
    | some l =>
      rw [el] at e
      dsimp only at e
      obtain ⟨ob, el'⟩ := rdL_R h _ _ _ el
      have o0 := ob 0 (by omega)
      have ea := ea_R (y := fO w) h d10 (by omega) (by omega)
      have t5 := T555 (σ := σ) (n := bytN w) (by omega) ob
      rw [← el'] at t5
      rw [ea] at s169
      have ts := T550r h (r := sRr w) (by omega)
      have t0 : MM 550 [mR (some 80), mI 0] σ = some (some (mI ((rpR c 0 : Nat) : Int)), σ) := T550r h (r := 0) (by decide)
      have m96 : ¬ fM w = 96 := by omega
      obtain ⟨A, hA⟩ : ∃ A, A = adR (rdR c (dR w)).1 + BitVec.ofNat 64 (offN (rdR c (dR w)).2 (fO w)).toNat := ⟨_, rfl⟩
      rw [← hA] at s169 t5
      -- behind what is put: the old number to a register
      have back : ∀ (ρ : MS) (c1 : TC WR) (r : Nat), RelR ρ c1 → cN c1 = cN c → r < 10 → RelR (sL ρ 146 (rpR c r) (leN l)) (wrR c1 r (0, leN l)) := fun ρ c1 r hr hn r9 => by
        have := wr_R (x := leN l) (v := (0, leN l)) hr r9 enG_0.symm okSV_0
        rwa [show rpR c1 r = rpR c r by show 11 * (cN c1 - 1) + r = _; rw [hn]] at this
      by_cases c241 : fI w = 241
      · rw [if_pos c241] at e
        by_cases q : ¬ (rdR c 0).1 = 0
        · rw [if_pos q] at e
          cases e
        · rw [if_neg q] at e
          have q0 : (rdR c 0).1 = 0 := Decidable.byContradiction q
          obtain ⟨za, _⟩ := rd_R h (r := 0) (by decide) (by omega)
          have za : gL σ 146 (rpR c 0) = (rdR c 0).2 := za.trans (enG_z q0)
          have t7 := T427 (σ := σ) (x := (rdR c 0).2) (b := 8 * bytN w) (by omega)
          have ww : w32 (8 * ((bytN w : Nat) : Int)) = ((8 * bytN w : Nat) : Int) := by
            rw [w32_i (by omega) (by omega)]
            omega
          by_cases eq : leN l = lowB (8 * bytN w) (rdR c 0).2
          · rw [if_pos eq] at e
            cases ew : wrL RB c (rdR c (dR w)).1 (offN (rdR c (dR w)).2 (fO w)).toNat (bysN (rdR c (sRr w)).2 (bytN w)) with
            | none =>
              rw [ew] at e
              cases e
            | some c1 =>
              rw [ew] at e
              have e := Option.some.inj e
              obtain ⟨ob2, rel⟩ := wrL_R' _ _ σ c h (bys_lt (rdR c (sRr w)).2 (bytN w)).2 ew
              have t6 := T556 (σ := σ) (x := (rdR c (sRr w)).2) b8.2 ob
              rw [← hA] at t6
              have cn := wrL_N _ ew
              have rel2 := back _ c1 0 rel cn (by decide)
              have t0' : MM 550 [mR (some 80), mI 0] (wrS σ (rdR c (dR w)).1 (offN (rdR c (dR w)).2 (fO w)).toNat (bysN (rdR c (sRr w)).2 (bytN w))) = some (some (mI ((rpR c 0 : Nat) : Int)), wrS σ (rdR c (dR w)).1 (offN (rdR c (dR w)).2 (fO w)).toNat (bysN (rdR c (sRr w)).2 (bytN w))) := by
                have := T550r rel (r := 0) (by decide)
                rwa [show rpR c1 0 = rpR c 0 by show 11 * (cN c1 - 1) + 0 = _; rw [cn]] at this
              refine ⟨_, ?_, by rw [← e]; exact rel2, fun s => ?_, mvR_t (mvR_w o0) mvR_L⟩
              · rw [s169]
                simp only [e560_169, e560_222, e560_233, e560_236, e560_258, e560_267, e560_281, e560_290, Option.getD_some, Option.bind_some, Option.toList_some, Option.toList_none, List.cons_append, List.nil_append, and_self, and_true, true_and, false_and, and_false, ite_self, not_true_eq_false, not_false_eq_true, reduceIte, Nat.reduceEqDiff, ab_I, ab_L, ab_R, ao_I, ao_L, ao_R, gL_sL, gI_sI, gR_sR, gI_sL, gI_sR, gL_sI, gL_sR, gR_sI, gR_sL, m96, not_false_eq_true, t5, t334, ts, g_146, bS.1, bS.2, b0.1, b0.2, Int.toNat_natCast, sa, c241, not_true_eq_false, t0, za, ww, t7, eq, t6, t0']
              · show gI (wrS _ _ _ _) 80 s = _
                rw [wrS_g, if_neg (fun y => by have := cell_R o0; omega)]
          · rw [if_neg eq] at e
            have e := Option.some.inj e
            have rel2 := back σ c 0 h rfl (by decide)
            refine ⟨sL σ 146 (rpR c 0) (leN l), ?_, by rw [← e]; exact rel2, fun s => rfl, mvR_L⟩
            rw [s169]
            simp only [e560_169, e560_222, e560_233, e560_236, e560_258, e560_267, e560_281, e560_290, Option.getD_some, Option.bind_some, Option.toList_some, Option.toList_none, List.cons_append, List.nil_append, and_self, and_true, true_and, false_and, and_false, ite_self, not_true_eq_false, not_false_eq_true, reduceIte, Nat.reduceEqDiff, ab_I, ab_L, ab_R, ao_I, ao_L, ao_R, gL_sL, gI_sI, gR_sR, gI_sL, gI_sR, gL_sI, gL_sR, gR_sI, gR_sL, m96, not_false_eq_true, t5, t334, ts, g_146, bS.1, bS.2, b0.1, b0.2, Int.toNat_natCast, sa, c241, not_true_eq_false, t0, za, ww, t7, eq]
      · rw [if_neg c241] at e
        cases ew : wrL RB c (rdR c (dR w)).1 (offN (rdR c (dR w)).2 (fO w)).toNat (bysN (swpX (fI w) (leN l) (rdR c (sRr w)).2) (bytN w)) with
        | none =>
          rw [ew] at e
          cases e
        | some c1 =>
          rw [ew] at e
          have e := Option.some.inj e
          obtain ⟨ob2, rel⟩ := wrL_R' _ _ σ c h (bys_lt (swpX (fI w) (leN l) (rdR c (sRr w)).2) (bytN w)).2 ew
          have t6 := T556 (σ := σ) (x := swpX (fI w) (leN l) (rdR c (sRr w)).2) b8.2 ob
          rw [← hA] at t6
          have cn := wrL_N _ ew
          obtain ⟨υ, hυ⟩ : ∃ υ, υ = wrS σ (rdR c (dR w)).1 (offN (rdR c (dR w)).2 (fO w)).toNat (bysN (swpX (fI w) (leN l) (rdR c (sRr w)).2) (bytN w)) := ⟨_, rfl⟩
          rw [← hυ] at t6 rel
          have ui : ∀ s, gI υ 80 s = gI σ 80 s := fun s => by
            rw [hυ, wrS_g, if_neg (fun y => by have := cell_R o0; omega)]
          have u2 : mvR σ υ := by
            rw [hυ]
            exact mvR_w o0
          -- up to what was put
          have s371 : ∃ x13 : Int, MM 560 [mR (some 80), mL w, mI (fOp w)] σ = RR (lkB tb560) (B560_371, [some (mR (some 80)), some (mL w), none, some (mI (fOp w)), some (mI ((bytN w : Nat) : Int)), some (mI (fM w)), some (mL A), none, some (mI (fI w)), some (mL (leN l)), none, some (mL (rdR c (sRr w)).2), none, some (mI x13)], [], υ) := by
            refine ⟨fI w / 16 * 16, ?_⟩
            rw [s169]
            unfold swpX at t6
            by_cases a0 : fI w / 16 * 16 = 0
            · rw [if_pos a0] at t6
              simp only [e560_169, e560_222, e560_233, e560_236, e560_368, Option.getD_some, Option.bind_some, Option.toList_some, Option.toList_none, List.cons_append, List.nil_append, and_self, and_true, true_and, false_and, and_false, ite_self, not_true_eq_false, not_false_eq_true, reduceIte, Nat.reduceEqDiff, ab_I, ab_L, ab_R, ao_I, ao_L, ao_R, gL_sL, gI_sI, gR_sR, gI_sL, gI_sR, gL_sI, gL_sR, gR_sI, gR_sL, m96, not_false_eq_true, t5, t334, ts, g_146, bS.1, bS.2, Int.toNat_natCast, sa, c241, x1, eq_true a0, not_true_eq_false, t6]
            · rw [if_neg a0] at t6
              by_cases a64 : fI w / 16 * 16 = 64
              · rw [if_pos a64] at t6
                simp only [e560_169, e560_222, e560_233, e560_236, e560_368, Option.getD_some, Option.bind_some, Option.toList_some, Option.toList_none, List.cons_append, List.nil_append, and_self, and_true, true_and, false_and, and_false, ite_self, not_true_eq_false, not_false_eq_true, reduceIte, Nat.reduceEqDiff, ab_I, ab_L, ab_R, ao_I, ao_L, ao_R, gL_sL, gI_sI, gR_sR, gI_sL, gI_sR, gL_sI, gL_sR, gR_sI, gR_sL, m96, not_false_eq_true, t5, t334, ts, g_146, bS.1, bS.2, Int.toNat_natCast, sa, c241, x1, eq_false a0, eq_true a64, not_true_eq_false, t6]
              · rw [if_neg a64] at t6
                by_cases a80 : fI w / 16 * 16 = 80
                · rw [if_pos a80] at t6
                  simp only [e560_169, e560_222, e560_233, e560_236, e560_368, Option.getD_some, Option.bind_some, Option.toList_some, Option.toList_none, List.cons_append, List.nil_append, and_self, and_true, true_and, false_and, and_false, ite_self, not_true_eq_false, not_false_eq_true, reduceIte, Nat.reduceEqDiff, ab_I, ab_L, ab_R, ao_I, ao_L, ao_R, gL_sL, gI_sI, gR_sR, gI_sL, gI_sR, gL_sI, gL_sR, gR_sI, gR_sL, m96, not_false_eq_true, t5, t334, ts, g_146, bS.1, bS.2, Int.toNat_natCast, sa, c241, x1, eq_false a0, eq_false a64, eq_true a80, not_true_eq_false, t6]
                · rw [if_neg a80] at t6
                  by_cases a160 : fI w / 16 * 16 = 160
                  · rw [if_pos a160] at t6
                    simp only [e560_169, e560_222, e560_233, e560_236, e560_368, Option.getD_some, Option.bind_some, Option.toList_some, Option.toList_none, List.cons_append, List.nil_append, and_self, and_true, true_and, false_and, and_false, ite_self, not_true_eq_false, not_false_eq_true, reduceIte, Nat.reduceEqDiff, ab_I, ab_L, ab_R, ao_I, ao_L, ao_R, gL_sL, gI_sI, gR_sR, gI_sL, gI_sR, gL_sI, gL_sR, gR_sI, gR_sL, m96, not_false_eq_true, t5, t334, ts, g_146, bS.1, bS.2, Int.toNat_natCast, sa, c241, x1, eq_false a0, eq_false a64, eq_false a80, eq_true a160, not_true_eq_false, t6]
                  · rw [if_neg a160] at t6
                    simp only [e560_169, e560_222, e560_233, e560_236, e560_368, Option.getD_some, Option.bind_some, Option.toList_some, Option.toList_none, List.cons_append, List.nil_append, and_self, and_true, true_and, false_and, and_false, ite_self, not_true_eq_false, not_false_eq_true, reduceIte, Nat.reduceEqDiff, ab_I, ab_L, ab_R, ao_I, ao_L, ao_R, gL_sL, gI_sI, gR_sR, gI_sL, gI_sR, gL_sI, gL_sR, gR_sI, gR_sL, m96, not_false_eq_true, t5, t334, ts, g_146, bS.1, bS.2, Int.toNat_natCast, sa, c241, x1, eq_false a0, eq_false a64, eq_false a80, eq_false a160, t6]
          obtain ⟨x13, s371⟩ := s371
          by_cases od : fI w % 2 = 1
          · rw [if_pos od] at e
            have s9 : sRr w < 10 := by show (fS w).toNat < 10; omega
            have rel2 := back υ c1 (sRr w) rel cn s9
            have ts' : MM 550 [mR (some 80), mI ((sRr w : Nat) : Int)] υ = some (some (mI ((rpR c (sRr w) : Nat) : Int)), υ) := by
              have := T550r rel (r := sRr w) (by omega)
              rwa [show rpR c1 (sRr w) = rpR c (sRr w) by show 11 * (cN c1 - 1) + sRr w = _; rw [cn]] at this
            refine ⟨sL υ 146 (rpR c (sRr w)) (leN l), ?_, by rw [← e]; exact rel2, fun s => ui s, mvR_t u2 mvR_L⟩
            rw [s371]
            simp only [e560_371, e560_388, e560_391, Option.getD_some, Option.bind_some, Option.toList_some, Option.toList_none, List.cons_append, List.nil_append, and_self, and_true, true_and, false_and, and_false, ite_self, not_true_eq_false, not_false_eq_true, reduceIte, Nat.reduceEqDiff, ab_I, ab_L, ab_R, ao_I, ao_L, ao_R, gL_sL, gI_sI, gR_sR, gI_sL, gI_sR, gL_sI, gL_sR, gR_sI, gR_sL, x2, od, not_true_eq_false, t334, ts', g_146, bS.1, bS.2, Int.toNat_natCast]
          · rw [if_neg od] at e
            refine ⟨υ, ?_, by rw [← e]; exact rel, ui, u2⟩
            rw [s371]
            simp only [e560_371, Option.getD_some, Option.bind_some, Option.toList_some, Option.toList_none, List.cons_append, List.nil_append, and_self, and_true, true_and, false_and, and_false, ite_self, not_true_eq_false, not_false_eq_true, reduceIte, Nat.reduceEqDiff, ab_I, ab_L, ab_R, ao_I, ao_L, ao_R, gL_sL, gI_sI, gR_sR, gI_sL, gI_sR, gL_sI, gL_sR, gR_sI, gR_sL, x2, od, not_false_eq_true]
end RSTO
