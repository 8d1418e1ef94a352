/-! ===== the reference: labels, a line ===== -/
/-- what reading a text may touch -/
def rfa (τ σ : MS) : Prop := (∀ k s, ¬ (k = 80 ∧ (8 ≤ s ∧ s ≤ 37)) → ¬ (87 ≤ k ∧ k ≤ 93) → gI τ k s = gI σ k s) ∧ (∀ k s, ¬ (k = 80 ∧ (s = 12 ∨ s = 32)) → ¬ k = 86 → gL τ k s = gL σ k s) ∧ τ.2.2 = σ.2.2
/-- labels, links and words as the reference has them -/
def rdS (t : Nat → Int) (n : Nat) (σ : MS) (s : RD) : Prop := (gI σ 80 20 = (s.1.1 : Int) ∧ ∀ l, l < s.1.1 → gI σ 87 l = (tB (tks t n (s.1.2 l).1) : Int) ∧ gI σ 88 l = ((tE (tks t n (s.1.2 l).1) - tB (tks t n (s.1.2 l).1) : Nat) : Int) ∧ gI σ 89 l = ((s.1.2 l).2 : Int)) ∧ (gI σ 80 25 = (s.2.1.1 : Int) ∧ ∀ u, u < s.2.1.1 → gI σ 90 u = ((s.2.1.2 u).2.1 : Int) ∧ gI σ 91 u = (tB (tks t n (s.2.1.2 u).1) : Int) ∧ gI σ 92 u = ((tE (tks t n (s.2.1.2 u).1) - tB (tks t n (s.2.1.2 u).1) : Nat) : Int) ∧ gI σ 93 u = (s.2.1.2 u).2.2) ∧ (gI σ 80 16 = (s.2.2.1.1 : Int) ∧ ∀ i, i < s.2.2.1.1 → gL σ 86 i = s.2.2.1.2 i)
section RLN
variable {t : Nat → Int} {n i j k m u M : Nat} {σ τ ρ υ : MS} {c d e o w x x1 x2 x3 x4 y f g B : Int} {v : B64} {q : B64 × Int} {T : TK} {r : SR} {s : RD}
theorem rfa_r (σ : MS) : rfa σ σ := ⟨fun _ _ _ _ => rfl, fun _ _ _ _ => rfl, rfl⟩
theorem rfa_t (h1 : rfa υ τ) (h2 : rfa τ σ) : rfa υ σ := ⟨fun k s q r => (h1.1 k s q r).trans (h2.1 k s q r), fun k s q r => (h1.2.1 k s q r).trans (h2.2.1 k s q r), h1.2.2.trans h2.2.2⟩
theorem rfa_s (h : rfs τ σ) : rfa τ σ := ⟨fun k s a b => h.1 k s (by omega) (by omega), fun k s a b => h.2.1 k s a b, h.2.2⟩
theorem rfa_f (h : rfr τ σ) : rfa τ σ := rfa_s (rfs_r h)
theorem rfa_W (h : rqW τ σ) : rfa τ σ := rfa_f (rfr_W h)
theorem rfa_I {s : Nat} (h : 8 ≤ s ∧ s ≤ 37) : rfa (sI σ 80 s x) σ := ⟨fun k' s' q _ => by rw [gI_sI, if_neg (by omega)], fun _ _ _ _ => rfl, rfl⟩
theorem rfa_K {k s : Nat} (h : 87 ≤ k ∧ k ≤ 93) : rfa (sI σ k s x) σ := ⟨fun k' s' q r => by rw [gI_sI, if_neg (by omega)], fun _ _ _ _ => rfl, rfl⟩
theorem rdS_W (h : rdS t n σ s) (f : rqW τ σ) : rdS t n τ s := by
  obtain ⟨⟨a1, a2⟩, ⟨b1, b2⟩, ⟨c1, c2⟩⟩ := h
  refine ⟨⟨(f.1 _ _ (by omega)).trans a1, fun l hl => ?_⟩, ⟨(f.1 _ _ (by omega)).trans b1, fun u hu => ?_⟩, ⟨(f.1 _ _ (by omega)).trans c1, fun i hi => (f.2.1 _ _ (by omega)).trans (c2 i hi)⟩⟩
  · obtain ⟨d1, d2, d3⟩ := a2 l hl
    exact ⟨(f.1 _ _ (by omega)).trans d1, (f.1 _ _ (by omega)).trans d2, (f.1 _ _ (by omega)).trans d3⟩
  · obtain ⟨d1, d2, d3, d4⟩ := b2 u hu
    exact ⟨(f.1 _ _ (by omega)).trans d1, (f.1 _ _ (by omega)).trans d2, (f.1 _ _ (by omega)).trans d3, (f.1 _ _ (by omega)).trans d4⟩
theorem g87 (h : m < 1400) : (Option.isSome (some 87) = true ∧ ab σ 3 87 (m : Int)) := by rw [g_87]; omega
theorem g88 (h : m < 1400) : (Option.isSome (some 88) = true ∧ ab σ 3 88 (m : Int)) := by rw [g_88]; omega
theorem g89 (h : m < 1400) : (Option.isSome (some 89) = true ∧ ab σ 3 89 (m : Int)) := by rw [g_89]; omega
/-- names are compared, one label -/
theorem L365 {A Bq : TK} {l : Nat} {R : Rs} (h : rTx σ t n) (hA : tB A ≤ tE A ∧ tE A ≤ n) (hB : tB Bq ≤ tE Bq ∧ tE Bq ≤ n) (hl : l < 1400) (e1 : gI σ 87 l = (tB A : Int)) (e2 : gI σ 88 l = ((tE A - tB A : Nat) : Int)) (hK : RR (lkB tb365) (B365_2, [some (mR (some 80)), some (mI (tB Bq : Int)), some (mI ((tE Bq - tB Bq : Nat) : Int)), some (mI ((l + 1 : Nat) : Int)), none, none], [], σ) = some R) :
    RR (lkB tb365) (B365_25, [some (mR (some 80)), some (mI (tB Bq : Int)), some (mI ((tE Bq - tB Bq : Nat) : Int)), some (mI (l : Int)), none, none], [mI (if tE A - tB A = tE Bq - tB Bq then 1 else 0)], σ) = if nameE t A Bq = true then some (some (mI (l : Int)), σ) else some R := by
  obtain ⟨h1, h2, h3, h4⟩ := h
  obtain ⟨N, hN⟩ : ∃ N, N = tE Bq - tB Bq := ⟨_, rfl⟩
  have no : ∀ i : Int, RR (lkB tb365) (B365_30, [some (mR (some 80)), some (mI (tB Bq : Int)), some (mI ((tE Bq - tB Bq : Nat) : Int)), some (mI (l : Int)), some (mI 0), some (mI i)], [], σ) = some R := fun i => by
    have nx : RR (lkB tb365) (B365_2, [some (mR (some 80)), some (mI (tB Bq : Int)), some (mI ((tE Bq - tB Bq : Nat) : Int)), some (mI ((l + 1 : Nat) : Int)), some (mI 0), some (mI i)], [], σ) = some R := RR_q hK (by repeat (first | exact lq_nil | refine lq_cons (Or.inr rfl) ?_ | refine lq_cons (Or.inl rfl) ?_))
    rw [e365_30, if_pos y00, w32_s1 (show l < 100000 by omega), nx]
    split
    · rfl
    · rw [if_pos y00]
  by_cases cl : tE A - tB A = tE Bq - tB Bq
  · have ne : nameE t A Bq = (List.range N).all fun i => decide (t (tB A + i) = t (tB Bq + i)) := by
      unfold nameE
      rw [decide_eq_true cl, Bool.true_and, hN]
    rw [if_pos cl, e365_25, ne]
    have key : ∀ (f i : Nat), i + f = N → (∀ j, j < i → t (tB A + j) = t (tB Bq + j)) → RR (lkB tb365) (B365_30, [some (mR (some 80)), some (mI (tB Bq : Int)), some (mI ((tE Bq - tB Bq : Nat) : Int)), some (mI (l : Int)), some (mI 1), some (mI (i : Int))], [], σ) = if ((List.range N).all fun i => decide (t (tB A + i) = t (tB Bq + i))) = true then some (some (mI (l : Int)), σ) else some R := by
      intro f
      induction f with
      | zero =>
        intro i z hi
        have z : i = N := by omega
        have tr : ((List.range N).all fun i => decide (t (tB A + i) = t (tB Bq + i))) = true := List.all_eq_true.mpr fun j hj => decide_eq_true (hi j (by rw [z]; exact List.mem_range.mp hj))
        rw [e365_30, if_pos (show ((tE Bq - tB Bq : Nat) : Int) ≤ (i : Int) by omega), if_neg n10, if_pos tr]
      | succ f ih =>
        intro i z hi
        have a1 : tB A + i < 4000 := by omega
        have a2 : tB Bq + i < 4000 := by omega
        have ih := ih (i + 1) (by omega)
        have nl : ¬ ((tE Bq - tB Bq : Nat) : Int) ≤ (i : Int) := by omega
        have l1 : i < 100000 := by omega
        rw [e365_30, if_neg nl, if_neg n10, if_pos (g87 hl), Int.toNat_natCast, e1, w32_a (show tB A + i < 100001 by omega), w32_a (show tB Bq + i < 100001 by omega), if_pos (g81' a1), if_pos (g81' a2), Int.toNat_natCast, Int.toNat_natCast, h3, h3, e365_72, e365_72, w32_s1 l1]
        by_cases ce : t (tB A + i) = t (tB Bq + i)
        · rw [if_neg (fun z => z ce)]
          exact ih fun j hj => by
            by_cases e : j = i
            · rw [e]; exact ce
            · exact hi j (by omega)
        · have fa : ¬ ((List.range N).all fun i => decide (t (tB A + i) = t (tB Bq + i))) = true := fun y => ce (of_decide_eq_true (List.all_eq_true.mp y i (List.mem_range.mpr (by omega))))
          rw [if_pos ce, if_neg fa]
          exact no _
    exact key N 0 (by omega) (fun j hj => by omega)
  · have ne : nameE t A Bq = false := by
      unfold nameE
      rw [decide_eq_false cl, Bool.false_and]
    rw [if_neg cl, e365_25, ne, if_neg (by decide)]
    exact no 0
/-- the label of this name -/
theorem T365 (h : rTx σ t n) (hr : rdS t n σ s) (hn : s.1.1 ≤ 1400) : MM 365 [mR (some 80), mI (tB (tks t n k) : Int), mI ((tE (tks t n k) - tB (tks t n k) : Nat) : Int)] σ = some (some (mI (ioN (labX t (tks t n) s k))), σ) := by
  obtain ⟨a1, a2⟩ := hr.1
  have key : ∀ (f l : Nat), l + f = s.1.1 → RR (lkB tb365) (B365_2, [some (mR (some 80)), some (mI (tB (tks t n k) : Int)), some (mI ((tE (tks t n k) - tB (tks t n k) : Nat) : Int)), some (mI (l : Int)), none, none], [], σ) = some (some (mI (ioN (fnd (fun l => nameE t (tks t n (s.1.2 l).1) (tks t n k)) f l))), σ) := by
    intro f
    induction f with
    | zero =>
      intro l z
      rw [e365_2, a1, if_pos (by omega)]
      rfl
    | succ f ih =>
      intro l z
      obtain ⟨d1, d2, d3⟩ := a2 l (by omega)
      have nl : ¬ (s.1.1 : Int) ≤ (l : Int) := by omega
      have l25 := L365 (A := tks t n (s.1.2 l).1) (Bq := tks t n k) h (tks_le _) (tks_le _) (show l < 1400 by omega) d1 d2 (ih (l + 1) (by omega))
      rw [e365_2, a1, if_neg nl, if_pos (g88 (by omega)), Int.toNat_natCast, d2]
      show _ = some (some (mI (ioN (if nameE t (tks t n (s.1.2 l).1) (tks t n k) = true then some l else fnd (fun l => nameE t (tks t n (s.1.2 l).1) (tks t n k)) f (l + 1)))), σ)
      by_cases cl : tE (tks t n (s.1.2 l).1) - tB (tks t n (s.1.2 l).1) = tE (tks t n k) - tB (tks t n k)
      · rw [if_pos cl] at l25
        rw [if_neg (show ¬ ¬ ((tE (tks t n (s.1.2 l).1) - tB (tks t n (s.1.2 l).1) : Nat) : Int) = ((tE (tks t n k) - tB (tks t n k) : Nat) : Int) by omega), l25]
        by_cases ce : nameE t (tks t n (s.1.2 l).1) (tks t n k) = true
        · rw [if_pos ce, if_pos ce]
          rfl
        · rw [if_neg ce, if_neg ce]
      · rw [if_neg cl] at l25
        rw [if_pos (show ¬ ((tE (tks t n (s.1.2 l).1) - tB (tks t n (s.1.2 l).1) : Nat) : Int) = ((tE (tks t n k) - tB (tks t n k) : Nat) : Int) by omega), l25]
        by_cases ce : nameE t (tks t n (s.1.2 l).1) (tks t n k) = true
        · rw [if_pos ce, if_pos ce]
          rfl
        · rw [if_neg ce, if_neg ce]
  rw [M365, e365_0]
  exact key s.1.1 0 (by omega)
/-- a statement that is told by a name -/
def isWd (t : Nat → Int) (T : TK) : Prop := nmP' t T 51 ∨ nmP' t T 52 ∨ nmP' t T 53 ∨ nmP' t T 54 ∨ nmP' t T 17 ∨ nmP' t T 55 ∨ nmP' t T 56 ∨ nmP' t T 57 ∨ nmP' t T 58 ∨ nmP' t T 59
theorem T369 (h : RG σ t n k) (hr : rgR t (tks t n k) < 0) : (isWd t (tks t n k) → MM 369 [mR (some 80)] σ = some (some (mI 1), σ)) ∧ (¬ isWd t (tks t n k) → MM 369 [mR (some 80)] σ = some (some (mI 0), σ)) := by
  have N := fun j (hj : j < 117) => N362 h hj
  rw [M369, e369_0, T364 h]
  simp only [Option.bind_some, Option.toList_some, Option.toList_none, List.cons_append, List.nil_append]
  rw [e369_4, if_neg (show ¬ 0 ≤ rgR t (tks t n k) by omega), N 51 (by decide)]
  simp only [Option.bind_some, Option.toList_some, Option.toList_none, List.cons_append, List.nil_append]
  unfold isWd
  have f107 : RR (lkB tb369) (B369_107, [some (mR (some 80))], [], σ) = some (some (mI 1), σ) := e369_107
  rw [e369_14, f107]
  by_cases c1 : nmP' t (tks t n k) 51
  · rw [b2_yes c1, if_pos n10]
    exact ⟨fun _ => rfl, fun z => absurd (Or.inl c1) z⟩
  · rw [b2_no c1, if_neg (fun z => z y00), N 52 (by decide)]
    simp only [Option.bind_some, Option.toList_some, Option.toList_none, List.cons_append, List.nil_append]
    rw [e369_24, f107]
    by_cases c2 : nmP' t (tks t n k) 52
    · rw [b2_yes c2, if_pos n10]
      exact ⟨fun _ => rfl, fun z => absurd (Or.inr (Or.inl c2)) z⟩
    · rw [b2_no c2, if_neg (fun z => z y00), N 53 (by decide)]
      simp only [Option.bind_some, Option.toList_some, Option.toList_none, List.cons_append, List.nil_append]
      rw [e369_34, f107]
      by_cases c3 : nmP' t (tks t n k) 53
      · rw [b2_yes c3, if_pos n10]
        exact ⟨fun _ => rfl, fun z => absurd (Or.inr (Or.inr (Or.inl c3))) z⟩
      · rw [b2_no c3, if_neg (fun z => z y00), N 54 (by decide)]
        simp only [Option.bind_some, Option.toList_some, Option.toList_none, List.cons_append, List.nil_append]
        rw [e369_44, f107]
        by_cases c4 : nmP' t (tks t n k) 54
        · rw [b2_yes c4, if_pos n10]
          exact ⟨fun _ => rfl, fun z => absurd (Or.inr (Or.inr (Or.inr (Or.inl c4)))) z⟩
        · rw [b2_no c4, if_neg (fun z => z y00), N 17 (by decide)]
          simp only [Option.bind_some, Option.toList_some, Option.toList_none, List.cons_append, List.nil_append]
          rw [e369_54, f107]
          by_cases c5 : nmP' t (tks t n k) 17
          · rw [b2_yes c5, if_pos n10]
            exact ⟨fun _ => rfl, fun z => absurd (Or.inr (Or.inr (Or.inr (Or.inr (Or.inl c5))))) z⟩
          · rw [b2_no c5, if_neg (fun z => z y00), N 55 (by decide)]
            simp only [Option.bind_some, Option.toList_some, Option.toList_none, List.cons_append, List.nil_append]
            rw [e369_64, f107]
            by_cases c6 : nmP' t (tks t n k) 55
            · rw [b2_yes c6, if_pos n10]
              exact ⟨fun _ => rfl, fun z => absurd (Or.inr (Or.inr (Or.inr (Or.inr (Or.inr (Or.inl c6)))))) z⟩
            · rw [b2_no c6, if_neg (fun z => z y00), N 56 (by decide)]
              simp only [Option.bind_some, Option.toList_some, Option.toList_none, List.cons_append, List.nil_append]
              rw [e369_74, f107]
              by_cases c7 : nmP' t (tks t n k) 56
              · rw [b2_yes c7, if_pos n10]
                exact ⟨fun _ => rfl, fun z => absurd (Or.inr (Or.inr (Or.inr (Or.inr (Or.inr (Or.inr (Or.inl c7))))))) z⟩
              · rw [b2_no c7, if_neg (fun z => z y00), N 57 (by decide)]
                simp only [Option.bind_some, Option.toList_some, Option.toList_none, List.cons_append, List.nil_append]
                rw [e369_84, f107]
                by_cases c8 : nmP' t (tks t n k) 57
                · rw [b2_yes c8, if_pos n10]
                  exact ⟨fun _ => rfl, fun z => absurd (Or.inr (Or.inr (Or.inr (Or.inr (Or.inr (Or.inr (Or.inr (Or.inl c8)))))))) z⟩
                · rw [b2_no c8, if_neg (fun z => z y00), N 58 (by decide)]
                  simp only [Option.bind_some, Option.toList_some, Option.toList_none, List.cons_append, List.nil_append]
                  rw [e369_94, f107]
                  by_cases c9 : nmP' t (tks t n k) 58
                  · rw [b2_yes c9, if_pos n10]
                    exact ⟨fun _ => rfl, fun z => absurd (Or.inr (Or.inr (Or.inr (Or.inr (Or.inr (Or.inr (Or.inr (Or.inr (Or.inl c9))))))))) z⟩
                  · rw [b2_no c9, if_neg (fun z => z y00), N 59 (by decide)]
                    simp only [Option.bind_some, Option.toList_some, Option.toList_none, List.cons_append, List.nil_append]
                    rw [e369_104, f107]
                    by_cases c10 : nmP' t (tks t n k) 59
                    · rw [b2_yes c10, if_neg n10]
                      exact ⟨fun _ => rfl, fun z => absurd (Or.inr (Or.inr (Or.inr (Or.inr (Or.inr (Or.inr (Or.inr (Or.inr (Or.inr c10))))))))) z⟩
                    · rw [b2_no c10, if_pos y00]
                      exact ⟨fun z => by
                        rcases z with z | z | z | z | z | z | z | z | z | z
                        · exact absurd z c1
                        · exact absurd z c2
                        · exact absurd z c3
                        · exact absurd z c4
                        · exact absurd z c5
                        · exact absurd z c6
                        · exact absurd z c7
                        · exact absurd z c8
                        · exact absurd z c9
                        · exact absurd z c10, fun _ => rfl⟩
end RLN
