/-! ===== the class's judge: PLACE, word by word ===== -/
section CPL3
variable {σ τ ρ : MS} {i n k s m cc : Nat} {S B J : Nat → Bool} {p : Nat → B64} {w : B64}
/-- a word that is an instruction, by its span -/
theorem spn_w (h : ¬ spn p n i = 0) : (fOp (p i) = 24 ∧ spn p n i = 2) ∨ (¬ fOp (p i) = 24 ∧ spn p n i = 1 ∧ okPl (p i)) := by
  unfold spn at h ⊢
  by_cases o : fOp (p i) = 24
  · rw [if_pos o] at h ⊢
    by_cases y : i + 1 < n ∧ okPr (p i) (p (i + 1))
    · rw [if_pos y]
      exact Or.inl ⟨o, rfl⟩
    · rw [if_neg y] at h
      exact absurd rfl h
  · rw [if_neg o] at h ⊢
    by_cases y : okPl (p i)
    · rw [if_pos y]
      exact Or.inr ⟨o, rfl, y⟩
    · rw [if_neg y] at h
      exact absurd rfl h
theorem spn_j (h : ¬ spn p n i = 0) : fL (p i) = 5 ∨ fL (p i) = 6 → okJmp (p i) := fun z => by
  rcases spn_w h with ⟨o, _⟩ | ⟨_, _, o⟩
  · exfalso
    unfold fL at z
    omega
  · unfold okPl at o
    rw [if_neg (by omega), if_neg (by omega), if_pos z] at o
    exact o
/-- what is behind it: the end of the program or a function -/
theorem L33e (g4 : gI σ 39 4 = (n : Int)) (hn : n ≤ 200) (m5 : mkC σ 55 (bgnP p n S)) (hi : i < n) (hs : ¬ spn p n i = 0) {x4 : Int} : RR (lkB tb33) (B33_94, [some (mR (some 39)), some (mL (p i)), none, some (mI (i : Int)), some (mI x4), none, none, none], [], σ) = some (some (mI (b2 (n ≤ i + spn p n i ∨ (bgnP p n S) (i + spn p n i) = true → fOp (p i) = 149 ∨ fOp (p i) = 5 ∨ fOp (p i) = 6))), σ) := by
  have s2 := spn_le (p := p) (n := n) i
  have s113 : RR (lkB tb33) (B33_94, [some (mR (some 39)), some (mL (p i)), none, some (mI (i : Int)), some (mI x4), none, none, none], [], σ) = RR (lkB tb33) (B33_113, [some (mR (some 39)), some (mL (p i)), none, some (mI (i : Int)), some (mI x4), some (mI (fOp (p i))), none, none], [mI ((spn p n i : Nat) : Int), mI (i : Int)], σ) := by
    rcases spn_w hs with ⟨o, e⟩ | ⟨o, e, _⟩
    · rw [e]
      simp only [e33_94, e33_98, Option.getD_some, Option.bind_some, Option.toList_some, Option.toList_none, List.cons_append, List.nil_append, and_self, and_true, true_and, false_and, and_false, ite_self, not_true_eq_false, not_false_eq_true, reduceIte, Nat.reduceEqDiff, ab_I, ab_L, ab_R, ao_I, ao_L, ao_R, gL_sL, gI_sI, gR_sR, gI_sL, gI_sR, gL_sI, gL_sR, gR_sI, gR_sL, T0, eq_true o]
      rfl
    · rw [e]
      simp only [e33_94, e33_98, Option.getD_some, Option.bind_some, Option.toList_some, Option.toList_none, List.cons_append, List.nil_append, and_self, and_true, true_and, false_and, and_false, ite_self, not_true_eq_false, not_false_eq_true, reduceIte, Nat.reduceEqDiff, ab_I, ab_L, ab_R, ao_I, ao_L, ao_R, gL_sL, gI_sI, gR_sR, gI_sL, gI_sR, gL_sI, gL_sR, gR_sI, gR_sL, T0, eq_false o]
      rfl
  have ww : w32 ((i : Int) + ((spn p n i : Nat) : Int)) = ((i + spn p n i : Nat) : Int) := by
    rw [w32_i (by omega) (by omega)]
    omega
  -- the last asking
  have s140 : ∀ z : Int, z = 0 ∨ z = 1 → RR (lkB tb33) (B33_140, [some (mR (some 39)), some (mL (p i)), none, some (mI (i : Int)), some (mI x4), some (mI (fOp (p i))), some (mI ((i + spn p n i : Nat) : Int)), none], [mI z], σ) = some (some (mI (b2 (z = 1 → fOp (p i) = 149 ∨ fOp (p i) = 5 ∨ fOp (p i) = 6))), σ) := fun z hz => by
    rcases hz with hz | hz
    · subst hz
      rw [b2_yes (fun y => absurd y (by decide))]
      simp only [e33_140, e33_168, Option.getD_some, Option.bind_some, Option.toList_some, Option.toList_none, List.cons_append, List.nil_append, and_self, and_true, true_and, false_and, and_false, ite_self, not_true_eq_false, not_false_eq_true, reduceIte, Nat.reduceEqDiff, ab_I, ab_L, ab_R, ao_I, ao_L, ao_R, gL_sL, gI_sI, gR_sR, gI_sL, gI_sR, gL_sI, gL_sR, gR_sI, gR_sL]
    · subst hz
      by_cases o1 : fOp (p i) = 149
      · rw [b2_yes (fun _ => Or.inl o1)]
        simp only [e33_140, e33_168, Option.getD_some, Option.bind_some, Option.toList_some, Option.toList_none, List.cons_append, List.nil_append, and_self, and_true, true_and, false_and, and_false, ite_self, not_true_eq_false, not_false_eq_true, reduceIte, Nat.reduceEqDiff, ab_I, ab_L, ab_R, ao_I, ao_L, ao_R, gL_sL, gI_sI, gR_sR, gI_sL, gI_sR, gL_sI, gL_sR, gR_sI, gR_sL, oneI, eq_true o1]
      · by_cases o2 : fOp (p i) = 5
        · rw [b2_yes (fun _ => Or.inr (Or.inl o2))]
          simp only [e33_140, e33_168, Option.getD_some, Option.bind_some, Option.toList_some, Option.toList_none, List.cons_append, List.nil_append, and_self, and_true, true_and, false_and, and_false, ite_self, not_true_eq_false, not_false_eq_true, reduceIte, Nat.reduceEqDiff, ab_I, ab_L, ab_R, ao_I, ao_L, ao_R, gL_sL, gI_sI, gR_sR, gI_sL, gI_sR, gL_sI, gL_sR, gR_sI, gR_sL, oneI, eq_false o1, eq_true o2]
        · by_cases o3 : fOp (p i) = 6
          · rw [b2_yes (fun _ => Or.inr (Or.inr o3))]
            simp only [e33_140, e33_168, Option.getD_some, Option.bind_some, Option.toList_some, Option.toList_none, List.cons_append, List.nil_append, and_self, and_true, true_and, false_and, and_false, ite_self, not_true_eq_false, not_false_eq_true, reduceIte, Nat.reduceEqDiff, ab_I, ab_L, ab_R, ao_I, ao_L, ao_R, gL_sL, gI_sI, gR_sR, gI_sL, gI_sR, gL_sI, gL_sR, gR_sI, gR_sL, oneI, eq_false o1, eq_false o2, eq_true o3]
          · rw [b2_no (fun y => (y rfl).elim o1 (fun y => y.elim o2 o3))]
            simp only [e33_140, Option.getD_some, Option.bind_some, Option.toList_some, Option.toList_none, List.cons_append, List.nil_append, and_self, and_true, true_and, false_and, and_false, ite_self, not_true_eq_false, not_false_eq_true, reduceIte, Nat.reduceEqDiff, ab_I, ab_L, ab_R, ao_I, ao_L, ao_R, gL_sL, gI_sI, gR_sR, gI_sL, gI_sR, gL_sI, gL_sR, gR_sI, gR_sL, oneI, eq_false o1, eq_false o2, eq_false o3]
  have pe : ∀ {P Q : Prop} {dP : Decidable P} {dQ : Decidable Q} (h : P ↔ Q), @b2 P dP = @b2 Q dQ := fun {P Q dP dQ} h => by
    by_cases y : P
    · rw [b2_yes y, b2_yes (h.mp y)]
    · rw [b2_no y, b2_no (fun z => y (h.mpr z))]
  rw [s113]
  by_cases c1 : n ≤ i + spn p n i
  · have le : (n : Int) ≤ ((i + spn p n i : Nat) : Int) := by omega
    have t := s140 1 (Or.inr rfl)
    simp only [e33_113, e33_135, Option.getD_some, Option.bind_some, Option.toList_some, Option.toList_none, List.cons_append, List.nil_append, and_self, and_true, true_and, false_and, and_false, ite_self, not_true_eq_false, not_false_eq_true, reduceIte, Nat.reduceEqDiff, ab_I, ab_L, ab_R, ao_I, ao_L, ao_R, gL_sL, gI_sI, gR_sR, gI_sL, gI_sR, gL_sI, gL_sR, gR_sI, gR_sL, g4, ww, le]
    rw [t]
    exact congrArg (fun x => some (some (mI x), σ)) (pe ⟨fun y _ => y rfl, fun y _ => y (Or.inl c1)⟩)
  · have nl : ¬ (n : Int) ≤ ((i + spn p n i : Nat) : Int) := by omega
    have b0 : 0 ≤ ((i + spn p n i : Nat) : Int) ∧ ((i + spn p n i : Nat) : Int) < 200 := by omega
    have g5 := m5 (i + spn p n i) (by omega)
    by_cases c2 : (bgnP p n S) (i + spn p n i) = true
    · rw [if_pos c2] at g5
      have t := s140 1 (Or.inr rfl)
      simp only [e33_113, e33_135, Option.getD_some, Option.bind_some, Option.toList_some, Option.toList_none, List.cons_append, List.nil_append, and_self, and_true, true_and, false_and, and_false, ite_self, not_true_eq_false, not_false_eq_true, reduceIte, Nat.reduceEqDiff, ab_I, ab_L, ab_R, ao_I, ao_L, ao_R, gL_sL, gI_sI, gR_sR, gI_sL, gI_sR, gL_sI, gL_sR, gR_sI, gR_sL, g4, ww, nl, g_55, b0.1, b0.2, Int.toNat_natCast, g5, oneI]
      rw [t]
      exact congrArg (fun x => some (some (mI x), σ)) (pe ⟨fun y _ => y rfl, fun y _ => y (Or.inr c2)⟩)
    · rw [if_neg c2] at g5
      have t := s140 0 (Or.inl rfl)
      simp only [e33_113, Option.getD_some, Option.bind_some, Option.toList_some, Option.toList_none, List.cons_append, List.nil_append, and_self, and_true, true_and, false_and, and_false, ite_self, not_true_eq_false, not_false_eq_true, reduceIte, Nat.reduceEqDiff, ab_I, ab_L, ab_R, ao_I, ao_L, ao_R, gL_sL, gI_sI, gR_sR, gI_sL, gI_sR, gL_sI, gL_sR, gR_sI, gR_sL, g4, ww, nl, g_55, b0.1, b0.2, Int.toNat_natCast, g5]
      rw [t]
      exact congrArg (fun x => some (some (mI x), σ)) (pe ⟨fun y q => (q.elim c1 c2).elim, fun _ q => absurd q (by decide)⟩)
/-- what PLACE asks of a word -/
theorem T33 (g4 : gI σ 39 4 = (n : Int)) (hn : n ≤ 200) (m4 : mkC σ 54 S) (m5 : mkC σ 55 (bgnP p n S)) (m6 : mkC σ 56 J) (m7 : ∀ j, j < n → gI σ 57 j = ((fnoP (bgnP p n S) j : Nat) : Int)) (hi : i < n) (hs : ¬ spn p n i = 0) : okc (MM 33 [mR (some 39), mL (p i), mI (i : Int)] σ) (some (mI (@b2 (godP p n S i) (Classical.propDecidable _)))) (fun τ => (∀ q s, ¬ q = 56 → gI τ q s = gI σ q s) ∧ τ.2 = σ.2 ∧ (godP p n S i → mkC τ 56 (fun j => J j || decide (ledO (p i) ∧ goal i (p i) = (j : Int))))) := by
  have i200 : i < 200 := by omega
  have t13 := T13 (w := p i) (σ := σ) (spn_j hs)
  have t14 := T14 (w := p i) (σ := σ)
  have t15 := T15 (w := p i) (σ := σ) (i := i) (n := n) i200 hn
  have ge : ∀ P : Prop, P → (godP p n S i ↔ (n ≤ i + spn p n i ∨ (bgnP p n S) (i + spn p n i) = true → fOp (p i) = 149 ∨ fOp (p i) = 5 ∨ fOp (p i) = 6)) → @b2 (godP p n S i) (Classical.propDecidable _) = b2 (n ≤ i + spn p n i ∨ (bgnP p n S) (i + spn p n i) = true → fOp (p i) = 149 ∨ fOp (p i) = 5 ∨ fOp (p i) = 6) := fun P _ h => by
    by_cases g : godP p n S i
    · rw [b2_yes g, b2_yes (h.mp g)]
    · rw [b2_no g, b2_no (fun y => g (h.mpr y))]
  have gno : ¬ godP p n S i → @b2 (godP p n S i) (Classical.propDecidable _) = 0 := fun g => b2_no g
  by_cases a : (ledO (p i) ∨ isCal (p i))
  · have s18 : RR (lkB tb33) (B33_0, [some (mR (some 39)), some (mL (p i)), none, some (mI (i : Int)), none, none, none, none], [], σ) = RR (lkB tb33) (B33_18, [some (mR (some 39)), some (mL (p i)), none, some (mI (i : Int)), some (mI (b2 (ledO (p i)))), none, none, none], [], σ) := by
      by_cases l : ledO (p i)
      · rw [b2_yes l] at t13
        rw [b2_yes l]
        simp only [e33_0, e33_4, Option.getD_some, Option.bind_some, Option.toList_some, Option.toList_none, List.cons_append, List.nil_append, and_self, and_true, true_and, false_and, and_false, ite_self, not_true_eq_false, not_false_eq_true, reduceIte, Nat.reduceEqDiff, ab_I, ab_L, ab_R, ao_I, ao_L, ao_R, gL_sL, gI_sI, gR_sR, gI_sL, gI_sR, gL_sI, gL_sR, gR_sI, gR_sL, t13, oneI]
      · have c := a.resolve_left l
        rw [b2_no l] at t13
        rw [b2_yes c] at t14
        rw [b2_no l]
        simp only [e33_0, e33_4, e33_15, Option.getD_some, Option.bind_some, Option.toList_some, Option.toList_none, List.cons_append, List.nil_append, and_self, and_true, true_and, false_and, and_false, ite_self, not_true_eq_false, not_false_eq_true, reduceIte, Nat.reduceEqDiff, ab_I, ab_L, ab_R, ao_I, ao_L, ao_R, gL_sL, gI_sI, gR_sR, gI_sL, gI_sR, gL_sI, gL_sR, gR_sI, gR_sL, t13, t14, oneI]
    have sM : MM 33 [mR (some 39), mL (p i), mI (i : Int)] σ = RR (lkB tb33) (B33_18, [some (mR (some 39)), some (mL (p i)), none, some (mI (i : Int)), some (mI (b2 (ledO (p i)))), none, none, none], [], σ) := by
      rw [M33]
      exact s18
    rw [sM]
    by_cases th : isTh n S (goal i (p i))
    · obtain ⟨⟨h1, h2⟩, h3⟩ := th
      have et : tgC n i (p i) = goal i (p i) := if_pos ⟨h1, by omega⟩
      rw [et] at t15
      obtain ⟨g, eg⟩ : ∃ g : Nat, goal i (p i) = (g : Int) := ⟨(goal i (p i)).toNat, by omega⟩
      have h3 : S g = true := by
        rw [eg, Int.toNat_natCast] at h3
        exact h3
      have h2 : g < n := by omega
      rw [eg] at t15
      have gb : 0 ≤ (g : Int) ∧ (g : Int) < 200 := by omega
      have ib : 0 ≤ (i : Int) ∧ (i : Int) < 200 := by omega
      have ng : ¬ (g : Int) < 0 := by omega
      have gg := m4 g (by omega)
      rw [if_pos h3] at gg
      have m6g := m6 g (by omega)
      by_cases l : ledO (p i)
      · rw [b2_yes l]
        by_cases F : fnoP (bgnP p n S) g = fnoP (bgnP p n S) i
        · -- the same function
          have ff : gI σ 57 g = gI σ 57 i := by rw [m7 g h2, m7 i hi, F]
          have T94 := L33e (σ := sI σ 56 g 1) (S := S) (x4 := 1) (by rw [gI_sI, if_neg (by omega)]; exact g4) hn (fun j hj => by rw [gI_sI, if_neg (by omega)]; exact m5 j hj) hi hs
          have gd : godP p n S i ↔ (n ≤ i + spn p n i ∨ (bgnP p n S) (i + spn p n i) = true → fOp (p i) = 149 ∨ fOp (p i) = 5 ∨ fOp (p i) = 6) := ⟨fun y => y.2.2, fun y => ⟨fun _ => ⟨⟨by omega, by omega⟩, by rw [eg, Int.toNat_natCast]; exact h3⟩, fun _ => by rw [eg, Int.toNat_natCast]; exact F, y⟩⟩
          refine okc_o (τ := sI σ 56 g 1) ?_ ⟨fun q s h => by rw [gI_sI, if_neg (fun y => h y.1)], rfl, fun _ j hj => ?_⟩
          · rw [ge True trivial gd]
            by_cases jg : J g = true
            · rw [if_pos jg] at m6g
              simp only [e33_18, e33_27, e33_67, e33_88, e33_93, Option.getD_some, Option.bind_some, Option.toList_some, Option.toList_none, List.cons_append, List.nil_append, and_self, and_true, true_and, false_and, and_false, ite_self, not_true_eq_false, not_false_eq_true, reduceIte, Nat.reduceEqDiff, ab_I, ab_L, ab_R, ao_I, ao_L, ao_R, gL_sL, gI_sI, gR_sR, gI_sL, gI_sR, gL_sI, gL_sR, gR_sI, gR_sL, g4, t15, ng, g_54, g_56, g_57, gb.1, gb.2, ib.1, ib.2, Int.toNat_natCast, gg, oneI, ff, m6g, show (1 : Int) % 2 = 1 from rfl]
              exact RR_q T94 (by repeat (first | exact lq_nil | refine lq_cons (Or.inr rfl) ?_ | refine lq_cons (Or.inl rfl) ?_))
            · rw [if_neg jg] at m6g
              simp only [e33_18, e33_27, e33_67, e33_88, e33_93, Option.getD_some, Option.bind_some, Option.toList_some, Option.toList_none, List.cons_append, List.nil_append, and_self, and_true, true_and, false_and, and_false, ite_self, not_true_eq_false, not_false_eq_true, reduceIte, Nat.reduceEqDiff, ab_I, ab_L, ab_R, ao_I, ao_L, ao_R, gL_sL, gI_sI, gR_sR, gI_sL, gI_sR, gL_sI, gL_sR, gR_sI, gR_sL, g4, t15, ng, g_54, g_56, g_57, gb.1, gb.2, ib.1, ib.2, Int.toNat_natCast, gg, oneI, ff, m6g, show (1 : Int) % 2 = 1 from rfl]
              exact RR_q T94 (by repeat (first | exact lq_nil | refine lq_cons (Or.inr rfl) ?_ | refine lq_cons (Or.inl rfl) ?_))
          · rw [gI_sI]
            by_cases ej : j = g
            · rw [if_pos ⟨rfl, ej⟩, ej]
              show (1 : Int) = if (J g || decide (ledO (p i) ∧ goal i (p i) = (g : Int))) = true then 1 else 0
              rw [decide_eq_true (show ledO (p i) ∧ goal i (p i) = (g : Int) from ⟨l, eg⟩)]
              simp
            · rw [if_neg (fun y => ej y.2)]
              show gI σ 56 j = if (J j || decide (ledO (p i) ∧ goal i (p i) = (j : Int))) = true then 1 else 0
              rw [decide_eq_false (show ¬ (ledO (p i) ∧ goal i (p i) = (j : Int)) from fun y => ej (by omega)), m6 j hj]
              simp
        · have ng2 : ¬ godP p n S i := fun y => F (by
            have := y.2.1 l
            rw [eg, Int.toNat_natCast] at this
            exact this)
          have ff : ¬ gI σ 57 g = gI σ 57 i := by
            rw [m7 g h2, m7 i hi]
            exact fun y => F (by omega)
          rw [gno ng2]
          refine okc_o (τ := σ) ?_ ⟨fun _ _ _ => rfl, rfl, fun y => absurd y ng2⟩
          simp only [e33_18, e33_27, Option.getD_some, Option.bind_some, Option.toList_some, Option.toList_none, List.cons_append, List.nil_append, and_self, and_true, true_and, false_and, and_false, ite_self, not_true_eq_false, not_false_eq_true, reduceIte, Nat.reduceEqDiff, ab_I, ab_L, ab_R, ao_I, ao_L, ao_R, gL_sL, gI_sI, gR_sR, gI_sL, gI_sR, gL_sI, gL_sR, gR_sI, gR_sL, g4, t15, ng, g_54, g_57, gb.1, gb.2, ib.1, ib.2, Int.toNat_natCast, gg, oneI, ff]
      · -- a call
        rw [b2_no l]
        have v6 : ∀ j, j < 200 → gI (sI σ 56 g (if J g = true then 1 else 0)) 56 j = gI σ 56 j := fun j hj => by
          rw [gI_sI]
          by_cases ej : j = g
          · rw [if_pos ⟨rfl, ej⟩, ej, m6g]
          · rw [if_neg (fun y => ej y.2)]
        have T94 := L33e (σ := sI σ 56 g (if J g = true then 1 else 0)) (S := S) (x4 := 0) (by rw [gI_sI, if_neg (by omega)]; exact g4) hn (fun j hj => by rw [gI_sI, if_neg (by omega)]; exact m5 j hj) hi hs
        have gd : godP p n S i ↔ (n ≤ i + spn p n i ∨ (bgnP p n S) (i + spn p n i) = true → fOp (p i) = 149 ∨ fOp (p i) = 5 ∨ fOp (p i) = 6) := ⟨fun y => y.2.2, fun y => ⟨fun _ => ⟨⟨by omega, by omega⟩, by rw [eg, Int.toNat_natCast]; exact h3⟩, fun y => absurd y l, y⟩⟩
        refine okc_o (τ := sI σ 56 g (if J g = true then 1 else 0)) ?_ ⟨fun q s h => by rw [gI_sI, if_neg (fun y => h y.1)], rfl, fun _ j hj => ?_⟩
        · rw [ge True trivial gd]
          by_cases jg : J g = true
          · rw [if_pos jg] at m6g T94 ⊢
            simp only [e33_18, e33_27, e33_67, e33_88, e33_93, Option.getD_some, Option.bind_some, Option.toList_some, Option.toList_none, List.cons_append, List.nil_append, and_self, and_true, true_and, false_and, and_false, ite_self, not_true_eq_false, not_false_eq_true, reduceIte, Nat.reduceEqDiff, ab_I, ab_L, ab_R, ao_I, ao_L, ao_R, gL_sL, gI_sI, gR_sR, gI_sL, gI_sR, gL_sI, gL_sR, gR_sI, gR_sL, g4, t15, ng, g_54, g_56, gb.1, gb.2, Int.toNat_natCast, gg, oneI, m6g, show (1 : Int) % 2 = 1 from rfl]
            exact RR_q T94 (by repeat (first | exact lq_nil | refine lq_cons (Or.inr rfl) ?_ | refine lq_cons (Or.inl rfl) ?_))
          · rw [if_neg jg] at m6g T94 ⊢
            simp only [e33_18, e33_27, e33_67, e33_93, Option.getD_some, Option.bind_some, Option.toList_some, Option.toList_none, List.cons_append, List.nil_append, and_self, and_true, true_and, false_and, and_false, ite_self, not_true_eq_false, not_false_eq_true, reduceIte, Nat.reduceEqDiff, ab_I, ab_L, ab_R, ao_I, ao_L, ao_R, gL_sL, gI_sI, gR_sR, gI_sL, gI_sR, gL_sI, gL_sR, gR_sI, gR_sL, g4, t15, ng, g_54, g_56, gb.1, gb.2, Int.toNat_natCast, gg, oneI, m6g, show (0 : Int) % 2 = 0 from rfl]
            exact RR_q T94 (by repeat (first | exact lq_nil | refine lq_cons (Or.inr rfl) ?_ | refine lq_cons (Or.inl rfl) ?_))
        · rw [v6 j hj, m6 j hj]
          show (if J j = true then (1 : Int) else 0) = if (J j || decide (ledO (p i) ∧ goal i (p i) = (j : Int))) = true then 1 else 0
          rw [decide_eq_false (show ¬ (ledO (p i) ∧ goal i (p i) = (j : Int)) from fun y => l y.1)]
          simp
    · -- it leads nowhere
      have ng2 : ¬ godP p n S i := fun y => th (y.1 a)
      rw [gno ng2]
      refine okc_o (τ := σ) ?_ ⟨fun _ _ _ => rfl, rfl, fun y => absurd y ng2⟩
      by_cases tg : 0 ≤ goal i (p i) ∧ goal i (p i) < (n : Int)
      · have et : tgC n i (p i) = goal i (p i) := if_pos tg
        rw [et] at t15
        obtain ⟨g, eg⟩ : ∃ g : Nat, goal i (p i) = (g : Int) := ⟨(goal i (p i)).toNat, by omega⟩
        rw [eg] at t15
        have gb : 0 ≤ (g : Int) ∧ (g : Int) < 200 := by omega
        have ng : ¬ (g : Int) < 0 := by omega
        have gg := m4 g (by omega)
        have sg : ¬ S g = true := fun y => th ⟨⟨tg.1, by omega⟩, by rw [eg, Int.toNat_natCast]; exact y⟩
        rw [if_neg sg] at gg
        simp only [e33_18, e33_27, Option.getD_some, Option.bind_some, Option.toList_some, Option.toList_none, List.cons_append, List.nil_append, and_self, and_true, true_and, false_and, and_false, ite_self, not_true_eq_false, not_false_eq_true, reduceIte, Nat.reduceEqDiff, ab_I, ab_L, ab_R, ao_I, ao_L, ao_R, gL_sL, gI_sI, gR_sR, gI_sL, gI_sR, gL_sI, gL_sR, gR_sI, gR_sL, g4, t15, ng, g_54, gb.1, gb.2, Int.toNat_natCast, gg]
      · have et : tgC n i (p i) = -1 := if_neg tg
        rw [et] at t15
        simp only [e33_18, e33_27, Option.getD_some, Option.bind_some, Option.toList_some, Option.toList_none, List.cons_append, List.nil_append, and_self, and_true, true_and, false_and, and_false, ite_self, not_true_eq_false, not_false_eq_true, reduceIte, Nat.reduceEqDiff, ab_I, ab_L, ab_R, ao_I, ao_L, ao_R, gL_sL, gI_sI, gR_sR, gI_sL, gI_sR, gL_sI, gL_sR, gR_sI, gR_sL, g4, t15, Int.reduceLT]
  · -- it doesn't lead
    have nl : ¬ ledO (p i) := fun y => a (Or.inl y)
    have ncl : ¬ isCal (p i) := fun y => a (Or.inr y)
    rw [b2_no nl] at t13
    rw [b2_no ncl] at t14
    have T94 := L33e (S := S) (x4 := 0) g4 hn m5 hi hs
    have gd : godP p n S i ↔ (n ≤ i + spn p n i ∨ (bgnP p n S) (i + spn p n i) = true → fOp (p i) = 149 ∨ fOp (p i) = 5 ∨ fOp (p i) = 6) := ⟨fun y => y.2.2, fun y => ⟨fun y => absurd y a, fun y => absurd y nl, y⟩⟩
    refine okc_o (τ := σ) ?_ ⟨fun _ _ _ => rfl, rfl, fun _ j hj => ?_⟩
    · rw [ge True trivial gd, ← T94]
      simp only [M33, e33_0, e33_4, e33_15, Option.getD_some, Option.bind_some, Option.toList_some, Option.toList_none, List.cons_append, List.nil_append, and_self, and_true, true_and, false_and, and_false, ite_self, not_true_eq_false, not_false_eq_true, reduceIte, Nat.reduceEqDiff, ab_I, ab_L, ab_R, ao_I, ao_L, ao_R, gL_sL, gI_sI, gR_sR, gI_sL, gI_sR, gL_sI, gL_sR, gR_sI, gR_sL, t13, t14]
    · rw [m6 j hj]
      show (if J j = true then (1 : Int) else 0) = if (J j || decide (ledO (p i) ∧ goal i (p i) = (j : Int))) = true then 1 else 0
      rw [decide_eq_false (show ¬ (ledO (p i) ∧ goal i (p i) = (j : Int)) from fun y => nl y.1)]
      simp
/-- PLACE, over all words -/
theorem L31 (hc : 7 ≤ cc ∧ cc ≤ 14) (hn : n ≤ 200) (hp : ∀ j, p j = gL σ cc j) (g4 : gI σ 39 4 = (n : Int)) (m4 : mkC σ 54 S) (m5 : mkC σ 55 (bgnP p n S)) (m7 : ∀ j, j < n → gI σ 57 j = ((fnoP (bgnP p n S) j : Nat) : Int)) (hS : ∀ j, S j = true → ¬ spn p n j = 0) : ∀ (f i : Nat) (ρ : MS), i ≤ n → n < i + f → (∀ q s, ¬ q = 56 → gI ρ q s = gI σ q s) → ρ.2 = σ.2 → mkC ρ 56 (joM p S i) →
    okc (RR (lkB tb31) (B31_7, [some (mR (some 39)), some (mR (some cc)), some (mI (i : Int))], [], ρ)) (some (mI (if plcP p n S f i = none then 0 else 2))) (fun τ => cpq τ σ ∧ (plcP p n S f i = none → (∀ q s, q = 51 → gI τ q s = gI σ q s) ∧ mkC τ 56 (joM p S n)) ∧ ∀ j, plcP p n S f i = some j → gI τ 51 0 = (j : Int) ∧ gI τ 51 3 = 0) := by
  intro f
  induction f with
  | zero => intro i ρ h1 h2; omega
  | succ f ih =>
    intro i ρ h1 h2 gi gl mk
    have r4 : gI ρ 39 4 = (n : Int) := (gi _ _ (by omega)).trans g4
    have qρ : cpq ρ σ := ⟨fun q s a b => gi q s (by omega), gl⟩
    unfold plcP
    by_cases c : n ≤ i
    · have e : i = n := by omega
      subst e
      rw [if_pos c, if_pos rfl]
      refine okc_o (τ := ρ) ?_ ⟨qρ, fun _ => ⟨fun q s h => gi q s (by omega), mk⟩, fun j e => (by cases e)⟩
      simp only [e31_7, Option.getD_some, Option.bind_some, Option.toList_some, Option.toList_none, List.cons_append, List.nil_append, and_self, and_true, true_and, false_and, and_false, ite_self, not_true_eq_false, not_false_eq_true, reduceIte, Nat.reduceEqDiff, ab_I, ab_L, ab_R, ao_I, ao_L, ao_R, gL_sL, gI_sI, gR_sR, gI_sL, gI_sR, gL_sI, gL_sR, gR_sI, gR_sL, r4, Int.le_refl]
    · rw [if_neg c]
      have nl : ¬ (n : Int) ≤ (i : Int) := by omega
      have b0 : 0 ≤ (i : Int) ∧ (i : Int) < 200 := by omega
      have ww : w32 ((i : Int) + 1) = ((i + 1 : Nat) : Int) := w32_s (by omega)
      have g54 : gI ρ 54 i = if S i = true then 1 else 0 := (gi 54 i (by omega)).trans (m4 i (by omega))
      have pl : gL ρ cc i = p i := by
        rw [hp i]
        unfold gL
        rw [gl]
      by_cases si : S i = true
      · rw [if_pos si] at g54
        obtain ⟨τ, t, q1, q2, q3⟩ := T33 (σ := ρ) (J := joM p S i) r4 hn (fun j hj => (gi _ _ (by omega)).trans (m4 j hj)) (fun j hj => (gi _ _ (by omega)).trans (m5 j hj)) mk (fun j hj => (gi _ _ (by omega)).trans (m7 j hj)) (show i < n by omega) (hS i si)
        have gi2 : ∀ q s, ¬ q = 56 → gI τ q s = gI σ q s := fun q s h => (q1 q s h).trans (gi q s h)
        by_cases g : godP p n S i
        · rw [if_neg (show ¬ (S i = true ∧ ¬ godP p n S i) from fun y => y.2 g)]
          rw [b2_yes g] at t
          have tt := ih (i + 1) τ (by omega) (by omega) gi2 (q2.trans gl) (fun j hj => by
            rw [q3 g j hj, jo_s, si]
            simp)
          rw [e31_7]
          simp only [e31_32, e31_42, Option.getD_some, Option.bind_some, Option.toList_some, Option.toList_none, List.cons_append, List.nil_append, and_self, and_true, true_and, false_and, and_false, ite_self, not_true_eq_false, not_false_eq_true, reduceIte, Nat.reduceEqDiff, ab_I, ab_L, ab_R, ao_I, ao_L, ao_R, gL_sL, gI_sI, gR_sR, gI_sL, gI_sR, gL_sI, gL_sR, gR_sI, gR_sL, r4, nl, g_54, b0.1, b0.2, gcc hc, Int.toNat_natCast, g54, oneI, pl, t, ww]
          exact tt
        · rw [if_pos (show S i = true ∧ ¬ godP p n S i from ⟨si, g⟩), if_neg (by intro y; cases y)]
          rw [b2_no g] at t
          have t29 := T29 (σ := τ) (x1 := 2) (x2 := (i : Int))
          refine okc_o (τ := sI (sI τ 51 0 (i : Int)) 51 3 0) ?_ ⟨cpq_t (cpq_i (by omega)) (cpq_t (cpq_i (by omega)) ⟨fun q s a b => gi2 q s (by omega), q2.trans gl⟩), fun y => (by cases y), fun j e => ?_⟩
          · rw [e31_7]
            simp only [e31_32, e31_41, Option.getD_some, Option.bind_some, Option.toList_some, Option.toList_none, List.cons_append, List.nil_append, and_self, and_true, true_and, false_and, and_false, ite_self, not_true_eq_false, not_false_eq_true, reduceIte, Nat.reduceEqDiff, ab_I, ab_L, ab_R, ao_I, ao_L, ao_R, gL_sL, gI_sI, gR_sR, gI_sL, gI_sR, gL_sI, gL_sR, gR_sI, gR_sL, r4, nl, g_54, b0.1, b0.2, gcc hc, Int.toNat_natCast, g54, oneI, pl, t, t29]
          · have e : i = j := Option.some.inj e
            rw [← e, gI_sI, if_neg (by omega), gI_sI, if_pos ⟨rfl, rfl⟩, gI_sI, if_pos ⟨rfl, rfl⟩]
            exact ⟨rfl, rfl⟩
      · rw [if_neg si] at g54
        rw [if_neg (show ¬ (S i = true ∧ ¬ godP p n S i) from fun y => si y.1)]
        have tt := ih (i + 1) ρ (by omega) (by omega) gi gl (fun j hj => by
          have : S i = false := by simpa using si
          rw [mk j hj, jo_s, this]
          simp)
        rw [e31_7]
        simp only [e31_42, Option.getD_some, Option.bind_some, Option.toList_some, Option.toList_none, List.cons_append, List.nil_append, and_self, and_true, true_and, false_and, and_false, ite_self, not_true_eq_false, not_false_eq_true, reduceIte, Nat.reduceEqDiff, ab_I, ab_L, ab_R, ao_I, ao_L, ao_R, gL_sL, gI_sI, gR_sR, gI_sL, gI_sR, gL_sI, gL_sR, gR_sI, gR_sL, r4, nl, g_54, b0.1, b0.2, Int.toNat_natCast, g54, ww]
        exact tt
theorem T31 (hc : 7 ≤ cc ∧ cc ≤ 14) (hn : n ≤ 200) (hp : ∀ j, p j = gL σ cc j) (g4 : gI σ 39 4 = (n : Int)) (m4 : mkC σ 54 S) (z5 : ∀ j, j < 200 → gI σ 55 j = 0) (z6 : ∀ j, j < 200 → gI σ 56 j = 0) (hS : ∀ j, S j = true → ¬ spn p n j = 0) : okc (MM 31 [mR (some 39), mR (some cc)] σ) (some (mI (if plcP p n S (n + 1) 0 = none then 0 else 2))) (fun τ => cpq τ σ ∧ (plcP p n S (n + 1) 0 = none → (∀ s, gI τ 51 s = gI σ 51 s) ∧ mkC τ 56 (joM p S n)) ∧ ∀ j, plcP p n S (n + 1) 0 = some j → gI τ 51 0 = (j : Int) ∧ gI τ 51 3 = 0) := by
  obtain ⟨ρ, t, q1, q2, q3, q4⟩ := T32 hc hn hp g4 m4 z5
  have h := L31 (σ := ρ) hc hn (fun j => (hp j).trans (cpq_L q1).symm) ((q1.1 _ _ (by omega) (by omega)).trans g4) (fun j hj => (q2 54 j (Or.inl rfl)).trans (m4 j hj)) q3 q4 hS (n + 1) 0 ρ (Nat.zero_le _) (by omega) (fun _ _ _ => rfl) rfl (fun j hj => by
    rw [q2 56 j (Or.inr (Or.inl rfl)), z6 j hj]
    rfl)
  have s7 : MM 31 [mR (some 39), mR (some cc)] σ = RR (lkB tb31) (B31_7, [some (mR (some 39)), some (mR (some cc)), some (mI ((0 : Nat) : Int))], [], ρ) := by
    simp only [M31, e31_0, e31_5, Option.getD_some, Option.bind_some, Option.toList_some, Option.toList_none, List.cons_append, List.nil_append, and_self, and_true, true_and, false_and, and_false, ite_self, not_true_eq_false, not_false_eq_true, reduceIte, Nat.reduceEqDiff, ab_I, ab_L, ab_R, ao_I, ao_L, ao_R, gL_sL, gI_sI, gR_sR, gI_sL, gI_sR, gL_sI, gL_sR, gR_sI, gR_sL, t]
    rfl
  rw [s7]
  refine okc_m h fun τ z => ⟨cpq_t z.1 q1, fun y => ⟨fun s => ((z.2.1 y).1 51 s rfl).trans (q2 51 s (Or.inr (Or.inr rfl))), (z.2.1 y).2⟩, z.2.2⟩
end CPL3
