/-! ===== the reference's judge, whole ===== -/
section JUD
variable {σ τ ρ : MS} {i n k s m : Nat} {S B : Nat → Bool} {p : Nat → B64} {E : EV}
theorem fno_n {B : Nat → Bool} (hb : ¬ B i = true ∨ i = 0) : fnoP B i = fnoP B (i - 1) := by
  rcases i with _ | i
  · rfl
  · exact if_neg (hb.resolve_right (by omega))
theorem L480l (h : okSl σ) (hn : n = szA σ) (hp : ∀ j, p j = wdA σ j) (m5 : mkS σ 135 S) : ∀ (f i : Nat) (τ : MS), i ≤ n → n < i + f → pq τ σ → gI τ 80 90 = 0 → gI τ 80 87 = gI σ 80 87 → mkS τ 137 (bgnP p n S) → mkS τ 136 (joM p S i) → okc (RR (lkB tb480) (B480_115, [some (mR (some 80)), some (mI (n : Int)), some (mI ((fnoP (bgnP p n S) (i - 1) : Nat) : Int)), some (mI (i : Int)), none, none, none, none, none, none, none, none], [], τ)) none (fun τ => plE σ τ p n S (plcP p n S f i)) := by
  obtain ⟨z1, z2, z3, z4⟩ := sl_sz h
  intro f
  induction f with
  | zero => intro i τ h1 h2; omega
  | succ f ih =>
    intro i τ h1 h2 q h90 h87 m7 m6
    obtain ⟨sl, wd, sz, js⟩ := pq_sl q h
    unfold plcP
    by_cases c : n ≤ i
    · have le : (n : Int) ≤ (i : Int) := by omega
      have en : i = n := by omega
      rw [if_pos c, e480_115, if_pos le]
      rw [en] at m6
      exact okc_s ⟨q, fun _ => ⟨h90, h87, m6⟩, fun j e => (by cases e)⟩
    · have nl : ¬ (n : Int) ≤ (i : Int) := by omega
      have b0 : 0 ≤ (i : Int) ∧ (i : Int) < 201 := by omega
      have i6 : i < 100000 := by omega
      have m5τ : mkS τ 135 S := fun j hj => (q.1 _ _ (by omega) (by omega)).trans (m5 j hj)
      have g5 := m5τ i (by omega)
      have g7 := m7 i (by omega)
      rw [if_neg c]
      by_cases si : S i = true
      · rw [if_pos si] at g5
        have s146 : RR (lkB tb480) (B480_115, [some (mR (some 80)), some (mI (n : Int)), some (mI ((fnoP (bgnP p n S) (i - 1) : Nat) : Int)), some (mI (i : Int)), none, none, none, none, none, none, none, none], [], τ) = RR (lkB tb480) (B480_146, [some (mR (some 80)), some (mI (n : Int)), some (mI ((fnoP (bgnP p n S) (i - 1) : Nat) : Int)), some (mI (i : Int)), none, none, none, none, none, none, none, none], [mI ((fnoP (bgnP p n S) i : Nat) : Int)], τ) := by
          rw [e480_115]
          by_cases b : (bgnP p n S) i = true
          · rw [if_pos b] at g7
            have ef : fnoP (bgnP p n S) i = i := by
              rcases i with _ | i
              · rfl
              · exact if_pos b
            rw [ef]
            simp only [Option.getD_some, Option.bind_some, Option.toList_some, Option.toList_none, List.cons_append, List.nil_append, and_self, and_true, true_and, false_and, and_false, ite_self, not_true_eq_false, not_false_eq_true, reduceIte, Nat.reduceEqDiff, ab_I, ab_L, ab_R, ao_I, ao_L, ao_R, gL_sL, gI_sI, gR_sR, gI_sL, gI_sR, gL_sI, gL_sR, gR_sI, gR_sL, nl, g_135, g_137, b0.1, b0.2, Int.toNat_natCast, g5, g7, oneI]
          · rw [if_neg b] at g7
            rw [fno_n (Or.inl b)]
            simp only [Option.getD_some, Option.bind_some, Option.toList_some, Option.toList_none, List.cons_append, List.nil_append, and_self, and_true, true_and, false_and, and_false, ite_self, not_true_eq_false, not_false_eq_true, reduceIte, Nat.reduceEqDiff, ab_I, ab_L, ab_R, ao_I, ao_L, ao_R, gL_sL, gI_sI, gR_sR, gI_sL, gI_sR, gL_sI, gL_sR, gR_sI, gR_sL, nl, g_135, g_137, b0.1, b0.2, Int.toNat_natCast, g5, g7, oneI]
        obtain ⟨y, no⟩ := L480s (x2 := ((fnoP (bgnP p n S) (i - 1) : Nat) : Int)) sl (by rw [sz]; exact hn) (fun j => (hp j).trans (wd j).symm) m5τ m7 (show i < n by omega)
        rw [s146]
        by_cases g : godP p n S i
        · rw [if_neg (fun z => z.2 g)]
          refine y g _ ?_
          rw [e480_346, w32_s i6]
          have e1 : i + 1 - 1 = i := by omega
          have t := ih (i + 1) (if ledO (p i) then sI τ 136 (goal i (p i)).toNat 1 else τ) (by omega) (by omega) ?_ ?_ ?_ ?_ ?_
          · rw [e1] at t
            exact t
          · split
            · exact pq_t (pq_sI (Or.inl rfl)) q
            · exact q
          · split
            · rw [gI_sI, if_neg (by omega)]; exact h90
            · exact h90
          · split
            · rw [gI_sI, if_neg (by omega)]; exact h87
            · exact h87
          · intro j hj
            split
            · rw [gI_sI, if_neg (by omega)]; exact m7 j hj
            · exact m7 j hj
          · intro j hj
            rw [jo_s, si]
            by_cases l : ledO (p i)
            · have th := g.1 (Or.inl l)
              rw [if_pos l, gI_sI]
              by_cases e : j = (goal i (p i)).toNat
              · have e2 : goal i (p i) = (j : Int) := by have := th.1; omega
                rw [if_pos ⟨rfl, e⟩, decide_eq_true (⟨l, e2⟩ : ledO (p i) ∧ goal i (p i) = (j : Int)), Bool.true_and, Bool.or_true, if_pos rfl]
              · have e2 : ¬ goal i (p i) = (j : Int) := by have := th.1; omega
                rw [if_neg (fun z => e z.2), decide_eq_false (fun z => e2 z.2 : ¬ (ledO (p i) ∧ goal i (p i) = (j : Int))), Bool.true_and, Bool.or_false]
                exact m6 j hj
            · rw [if_neg l, decide_eq_false (fun z => l z.1 : ¬ (ledO (p i) ∧ goal i (p i) = (j : Int))), Bool.true_and, Bool.or_false]
              exact m6 j hj
        · rw [if_pos ⟨si, g⟩, no g]
          refine okc_s ⟨⟨fun k s q1 q2 => ?_, fun k s => q.2.1 k s, q.2.2⟩, fun e => (by cases e), fun j e => ?_⟩
          · rw [fl_o (by omega), gI_sI, if_neg (by omega)]
            exact q.1 k s q1 q2
          · cases e
            refine ⟨?_, ?_⟩
            · rw [fl_g, gI_sI, if_neg (by omega), h90, fst0]
            · rw [fl_o (by omega), gI_sI, if_pos ⟨rfl, rfl⟩]
      · have sf : S i = false := by cases hS : S i with | true => exact absurd hS si | false => rfl
        rw [if_neg si] at g5
        rw [if_neg (fun z => si z.1)]
        have hb : ¬ (bgnP p n S) i = true ∨ i = 0 := by
          by_cases z : i = 0
          · exact Or.inr z
          · refine Or.inl fun b => ?_
            unfold bgnP at b
            rw [decide_eq_false z, sf] at b
            simp at b
        have t := ih (i + 1) τ (by omega) (by omega) q h90 h87 m7 (fun j hj => by
          rw [jo_s, sf, Bool.false_and, Bool.or_false]
          exact m6 j hj)
        rw [show i + 1 - 1 = i by omega, fno_n hb] at t
        rw [e480_115]
        simp only [e480_346, Option.getD_some, Option.bind_some, Option.toList_some, Option.toList_none, List.cons_append, List.nil_append, and_self, and_true, true_and, false_and, and_false, ite_self, not_true_eq_false, not_false_eq_true, reduceIte, Nat.reduceEqDiff, ab_I, ab_L, ab_R, ao_I, ao_L, ao_R, gL_sL, gI_sI, gR_sR, gI_sL, gI_sR, gL_sI, gL_sR, gR_sI, gR_sL, nl, g_135, b0.1, b0.2, Int.toNat_natCast, g5, w32_s i6]
        exact t
theorem T480 (h : okSl σ) (h90 : gI σ 80 90 = 0) (m5 : mkS σ 135 S) : okc (MM 480 [mR (some 80)] σ) none (fun τ => plE σ τ (wdA σ) (szA σ) S (plcP (wdA σ) (szA σ) S (szA σ + 1) 0)) := by
  obtain ⟨z1, z2, z3, z4⟩ := sl_sz h
  have g84 : gI σ 84 (jsA σ).toNat = ((szA σ : Nat) : Int) := z1.symm
  have e86 : gI σ 80 86 = jsA σ := rfl
  have s12 : MM 480 [mR (some 80)] σ = RR (lkB tb480) (B480_12, [some (mR (some 80)), some (mI ((szA σ : Nat) : Int)), some (mI 0), none, none, none, none, none, none, none, none, none], [], σ) := by
    simp only [M480, e480_0, Option.getD_some, Option.bind_some, Option.toList_some, Option.toList_none, List.cons_append, List.nil_append, and_self, and_true, true_and, false_and, and_false, ite_self, not_true_eq_false, not_false_eq_true, reduceIte, Nat.reduceEqDiff, ab_I, ab_L, ab_R, ao_I, ao_L, ao_R, gL_sL, gI_sI, gR_sR, gI_sL, gI_sR, gL_sI, gL_sR, gR_sI, gR_sL, g_84, e86, z3, z4, g84]
  rw [s12, L480a]
  have q := c2_q (σ := σ) 201
  obtain ⟨ρ, e1, e2, e3, e4, e5, e6⟩ := L480b (σ := σ) (n := szA σ) (p := wdA σ) h rfl (fun _ => rfl) m5 (szA σ) 0 (c2I σ 201) (by omega) q (c2_80 201) (c2_80 201) (fun j hj => by
    rw [(c2_v 201 hj).2]
    rfl) (fun j hj => by
    rw [(c2_v 201 hj).1]
    unfold bgM
    by_cases z : j = 0
    · rw [if_pos z, decide_eq_true z]
      rfl
    · rw [if_neg z, decide_eq_false z]
      simp)
  have e1 : RR (lkB tb480) (B480_49, [some (mR (some 80)), some (mI ((szA σ : Nat) : Int)), some (mI 0), none, none, none, none, none, none, none, none, none], [], c2I σ 201) = RR (lkB tb480) (B480_115, [some (mR (some 80)), some (mI ((szA σ : Nat) : Int)), some (mI 0), some (mI 0), none, none, none, none, none, none, none, none], [], ρ) := e1
  rw [e1]
  exact L480l (σ := σ) (n := szA σ) (p := wdA σ) h rfl (fun _ => rfl) m5 (szA σ + 1) 0 ρ (Nat.zero_le _) (by omega) e2 (e3.trans h90) e4 e6 e5
/-- no instruction is out of place -/
theorem plc_n : ∀ (f i : Nat), n < i + f → plcP p n S f i = none → ∀ j, i ≤ j → j < n → S j = true → godP p n S j := by
  intro f
  induction f with
  | zero => intro i h1 _ j h2 h3; omega
  | succ f ih =>
    intro i h1 h j h2 h3 h4
    unfold plcP at h
    by_cases c : n ≤ i
    · omega
    · rw [if_neg c] at h
      by_cases z : S i = true ∧ ¬ godP p n S i
      · rw [if_pos z] at h
        cases h
      · rw [if_neg z] at h
        by_cases e : j = i
        · subst e
          exact Classical.byContradiction fun g => z ⟨h4, g⟩
        · exact ih (i + 1) (by omega) h j (by omega) h3 h4
/-- what is told of a program: the fault, where, what was counted, the longest, what was known -/
abbrev JD : Type := Int × Int × (Int × Int × Int × Int × Int) × (Int → Option ST)
def judR (E : EV) (p : Nat → B64) (n : Nat) (r : JD) : Prop :=
  (∃ i S, frmP p n (n + 1) 0 (fun _ => false) = (some i, S) ∧ r = (1, (i : Int), (0, 0, 0, 0, 0), fun _ => none))
  ∨ ∃ S, frmP p n (n + 1) 0 (fun _ => false) = (none, S) ∧
    ((∃ i, plcP p n S (n + 1) 0 = some i ∧ r = (2, (i : Int), (0, 0, 0, 0, 0), fun _ => none))
    ∨ (plcP p n S (n + 1) 0 = none ∧ ∃ (f : Nat) (e : Int) (w : WK), wlkK E (fun i => p i.toNat) (fun j => joiP p n S j) f true (begK S0J) = some (e, w) ∧ r = (e, if e = 0 then -1 else yA w, (yG w, (yNn w : Int), if e = 0 then kL (yH w 0) else 0, w.2.2.2.1, w.2.2.2.2.1), w.2.2.2.2.2)))
end JUD
