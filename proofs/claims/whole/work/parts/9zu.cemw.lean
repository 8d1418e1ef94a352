/-! ===== the class's plain code: words ===== -/
section CEMW
variable {σ τ ρ υ : MS} {w w2 : B64} {m n p q e j z N K : Nat} {y nx hh i x1 x2 a b c d o r x t : Int} {L L1 L2 : List Q4}
theorem opQ_r : 0 ≤ opQ c o ∧ opQ c o < 65536 := by
  unfold opQ
  repeat' split
  all_goals decide
theorem cndQ_r : 0 ≤ cndQ c ∧ cndQ c < 65536 := by
  unfold cndQ
  repeat' split
  all_goals decide
theorem T118 (hw : okMem w) (h3 : fL w = 3) (h : emC σ K N) (hN : N < 1195) : ∃ τ, MM 118 [mR (some 72), mL w] σ = some (none, τ) ∧ emP σ τ K N (stoQ w N) := by
  have K3 := h.2.2.1
  have w224 : iAnd (fOp w) 224 = fM w := m224 w
  have hw' := hw
  unfold okMem at hw'
  rw [if_neg (by omega), if_neg (by omega)] at hw'
  have s : MM 118 [mR (some 72), mL w] σ = RR (lkB tb118) (B118_21, [some (mR (some 72)), some (mL w), none, some (mI (fD w)), some (mI (fS w)), some (mI (fI w))], [mI (fOp w)], σ) := by
    rw [M118, e118_0, T1]
    simp only [Option.getD_some, Option.bind_some, Option.toList_some, Option.toList_none, List.cons_append, List.nil_append, and_self, and_true, true_and, false_and, and_false, ite_self, not_true_eq_false, not_false_eq_true, reduceIte, Nat.reduceEqDiff, ab_I, ab_L, ab_R, ao_I, ao_L, ao_R, gL_sL, gI_sI, gR_sR, gI_sL, gI_sR, gL_sI, gL_sR, gR_sI, gR_sL]
    rw [e118_4, T2]
    simp only [Option.getD_some, Option.bind_some, Option.toList_some, Option.toList_none, List.cons_append, List.nil_append, and_self, and_true, true_and, false_and, and_false, ite_self, not_true_eq_false, not_false_eq_true, reduceIte, Nat.reduceEqDiff, ab_I, ab_L, ab_R, ao_I, ao_L, ao_R, gL_sL, gI_sI, gR_sR, gI_sL, gI_sR, gL_sI, gL_sR, gR_sI, gR_sL]
    rw [e118_9, T4]
    simp only [Option.getD_some, Option.bind_some, Option.toList_some, Option.toList_none, List.cons_append, List.nil_append, and_self, and_true, true_and, false_and, and_false, ite_self, not_true_eq_false, not_false_eq_true, reduceIte, Nat.reduceEqDiff, ab_I, ab_L, ab_R, ao_I, ao_L, ao_R, gL_sL, gI_sI, gR_sR, gI_sL, gI_sR, gL_sI, gL_sR, gR_sI, gR_sL]
    rw [e118_15, T0]
    simp only [Option.getD_some, Option.bind_some, Option.toList_some, Option.toList_none, List.cons_append, List.nil_append, and_self, and_true, true_and, false_and, and_false, ite_self, not_true_eq_false, not_false_eq_true, reduceIte, Nat.reduceEqDiff, ab_I, ab_L, ab_R, ao_I, ao_L, ao_R, gL_sL, gI_sI, gR_sR, gI_sL, gI_sR, gL_sI, gL_sR, gR_sI, gR_sL]
  unfold stoQ
  by_cases m96 : fM w = 96
  · obtain ⟨τ, t, p⟩ := T116 (o := 19) (w := w) (a := fD w) (b := fS w) (Or.inr rfl) h (by omega)
    refine ⟨τ, ?_, by rw [if_pos m96]; exact p⟩
    rw [s, e118_21, w224, if_neg (not_not_intro m96), t]
    simp only [Option.getD_some, Option.bind_some, Option.toList_some, Option.toList_none, List.cons_append, List.nil_append, and_self, and_true, true_and, false_and, and_false, ite_self, not_true_eq_false, not_false_eq_true, reduceIte, Nat.reduceEqDiff, ab_I, ab_L, ab_R, ao_I, ao_L, ao_R, gL_sL, gI_sI, gR_sR, gI_sL, gI_sR, gL_sI, gL_sR, gR_sI, gR_sL, e118_40]
  · rw [if_neg m96] at hw'
    obtain ⟨⟨oo, hd⟩, hi⟩ := hw'
    have hx : (fI w = 0 ∨ fI w = 64 ∨ fI w = 80 ∨ fI w = 160 ∨ fI w = 241) ∨ (fI w = 1 ∨ fI w = 65 ∨ fI w = 81 ∨ fI w = 161 ∨ fI w = 225) := by omega
    obtain ⟨y1, y2⟩ := x240 hx
    obtain ⟨τ1, t1, p1⟩ := T116 (o := 18) (w := w) (a := 11) (b := fD w) (Or.inl rfl) h (by omega)
    have c1 : emC τ1 K (N + 1) := emC_p h p1
    rw [if_neg m96]
    have s51 : MM 118 [mR (some 72), mL w] σ = RR (lkB tb118) (B118_51, [some (mR (some 72)), some (mL w), none, some (mI (fD w)), some (mI (fS w)), some (mI (fI w))], [], τ1) := by
      rw [s, e118_21, w224, if_pos m96, t1]
      simp only [Option.getD_some, Option.bind_some, Option.toList_some, Option.toList_none, List.cons_append, List.nil_append, and_self, and_true, true_and, false_and, and_false, ite_self, not_true_eq_false, not_false_eq_true, reduceIte, Nat.reduceEqDiff, ab_I, ab_L, ab_R, ao_I, ao_L, ao_R, gL_sL, gI_sI, gR_sR, gI_sL, gI_sR, gL_sI, gL_sR, gR_sI, gR_sL]
    rw [s51, e118_51]
    by_cases c241 : fI w = 241
    · rw [if_neg (not_not_intro c241), if_pos c241, T0]
      simp only [Option.getD_some, Option.bind_some, Option.toList_some, Option.toList_none, List.cons_append, List.nil_append, and_self, and_true, true_and, false_and, and_false, ite_self, not_true_eq_false, not_false_eq_true, reduceIte, Nat.reduceEqDiff, ab_I, ab_L, ab_R, ao_I, ao_L, ao_R, gL_sL, gI_sI, gR_sR, gI_sL, gI_sR, gL_sI, gL_sR, gR_sI, gR_sL]
      obtain ⟨τ2, t2, p2⟩ := T112 (o := if bytN w = 4 then 15 else 1) (a := 12) (b := 0) (c := 0) c1 (by omega) (by split <;> omega)
      have c2 : emC τ2 K (N + 1 + 1) := emC_p c1 p2
      have s3 : -2147483648 ≤ ((N + 1 + 1 : Nat) : Int) + 2 ∧ ((N + 1 + 1 : Nat) : Int) + 2 < 2147483648 := by omega
      have e3 : ((N + 1 + 1 : Nat) : Int) + 2 = (N : Int) + 4 := by omega
      obtain ⟨τ3, t3, p3⟩ := T112 (o := 21) (a := (N : Int) + 4) (b := 11) (c := 12) c2 (by omega) (by omega)
      have c3 : emC τ3 K (N + 1 + 1 + 1) := emC_p c2 p3
      obtain ⟨τ4, t4, p4⟩ := T116 (o := 19) (w := w) (a := fD w) (b := fS w) (Or.inr rfl) c3 (by omega)
      have c4 : emC τ4 K (N + 1 + 1 + 1 + 1) := emC_p c3 p4
      obtain ⟨τ5, t5, p5⟩ := T112 (o := 1) (a := 0) (b := 11) (c := 0) c4 (by omega) (by omega)
      have ww : w32 (gI τ2 72 4 + 2) = (N : Int) + 4 := by rw [c2.2.2.2.1, w32_i s3.1 s3.2, e3]
      refine ⟨τ5, ?_, emP_t p1 (emP_t p2 (emP_t p3 (emP_t p4 p5 K3) K3) K3) K3⟩
      have go : RR (lkB tb118) (B118_77, [some (mR (some 72)), some (mL w), none, some (mI (fD w)), some (mI (fS w)), some (mI (fI w))], [mI (if bytN w = 4 then 15 else 1), mR (some 72)], τ1) = some (none, τ5) := by
        rw [e118_77, t2]
        simp only [Option.getD_some, Option.bind_some, Option.toList_some, Option.toList_none, List.cons_append, List.nil_append, and_self, and_true, true_and, false_and, and_false, ite_self, not_true_eq_false, not_false_eq_true, reduceIte, Nat.reduceEqDiff, ab_I, ab_L, ab_R, ao_I, ao_L, ao_R, gL_sL, gI_sI, gR_sR, gI_sL, gI_sR, gL_sI, gL_sR, gR_sI, gR_sL]
        rw [e118_84, ww, t3]
        simp only [Option.getD_some, Option.bind_some, Option.toList_some, Option.toList_none, List.cons_append, List.nil_append, and_self, and_true, true_and, false_and, and_false, ite_self, not_true_eq_false, not_false_eq_true, reduceIte, Nat.reduceEqDiff, ab_I, ab_L, ab_R, ao_I, ao_L, ao_R, gL_sL, gI_sI, gR_sR, gI_sL, gI_sR, gL_sI, gL_sR, gR_sI, gR_sL]
        rw [e118_100, t4]
        simp only [Option.getD_some, Option.bind_some, Option.toList_some, Option.toList_none, List.cons_append, List.nil_append, and_self, and_true, true_and, false_and, and_false, ite_self, not_true_eq_false, not_false_eq_true, reduceIte, Nat.reduceEqDiff, ab_I, ab_L, ab_R, ao_I, ao_L, ao_R, gL_sL, gI_sI, gR_sR, gI_sL, gI_sR, gL_sI, gL_sR, gR_sI, gR_sL]
        rw [e118_110, t5]
        simp only [Option.getD_some, Option.bind_some, Option.toList_some, Option.toList_none, List.cons_append, List.nil_append, and_self, and_true, true_and, false_and, and_false, ite_self, not_true_eq_false, not_false_eq_true, reduceIte, Nat.reduceEqDiff, ab_I, ab_L, ab_R, ao_I, ao_L, ao_R, gL_sL, gI_sI, gR_sR, gI_sL, gI_sR, gL_sI, gL_sR, gR_sI, gR_sL, e118_119]
      rw [e118_64, T5]
      simp only [Option.getD_some, Option.bind_some, Option.toList_some, Option.toList_none, List.cons_append, List.nil_append, and_self, and_true, true_and, false_and, and_false, ite_self, not_true_eq_false, not_false_eq_true, reduceIte, Nat.reduceEqDiff, ab_I, ab_L, ab_R, ao_I, ao_L, ao_R, gL_sL, gI_sI, gR_sR, gI_sL, gI_sR, gL_sI, gL_sR, gR_sI, gR_sL]
      rw [e118_67]
      by_cases b4 : bytN w = 4
      · rw [if_pos b4] at go
        rw [if_neg (by omega)]
        exact go
      · rw [if_neg b4] at go
        rw [if_pos (by omega)]
        exact go
    · rw [if_pos c241, if_neg c241]
      -- the end
      have fin : ∀ (τ2 : MS) (M : List Q4), M.length ≤ 2 → emP τ1 τ2 K (N + 1) M → ∃ τ, RR (lkB tb118) (B118_171, [some (mR (some 72)), some (mL w), none, some (mI (fD w)), some (mI (fS w)), some (mI (fI w))], [], τ2) = some (none, τ) ∧ emP σ τ K N (memQ 18 w 11 (fD w) :: (M ++ (if fI w % 2 = 1 then [(1, fS w, 11, 0)] else []))) := fun τ2 M lM p2 => by
        have c2 : emC τ2 K (N + 1 + M.length) := emC_p c1 p2
        by_cases od : fI w % 2 = 1
        · obtain ⟨τ3, t3, p3⟩ := T112 (o := 1) (a := fS w) (b := 11) (c := 0) c2 (by omega) (by omega)
          refine ⟨τ3, ?_, ?_⟩
          · rw [e118_171, y2, if_neg (by omega), t3]
            simp only [Option.getD_some, Option.bind_some, Option.toList_some, Option.toList_none, List.cons_append, List.nil_append, and_self, and_true, true_and, false_and, and_false, ite_self, not_true_eq_false, not_false_eq_true, reduceIte, Nat.reduceEqDiff, ab_I, ab_L, ab_R, ao_I, ao_L, ao_R, gL_sL, gI_sI, gR_sR, gI_sL, gI_sR, gL_sI, gL_sR, gR_sI, gR_sL, e118_188]
          · rw [if_pos od]
            exact emP_t p1 (emP_t p2 p3 K3) K3
        · refine ⟨τ2, ?_, ?_⟩
          · rw [e118_171, y2, if_pos (by omega), e118_188]
          · rw [if_neg od, List.append_nil]
            exact emP_t p1 p2 K3
      by_cases c225 : fI w = 225
      · obtain ⟨τ2, t2, p2⟩ := T116 (o := 19) (w := w) (a := fD w) (b := fS w) (Or.inr rfl) c1 (by omega)
        obtain ⟨τ, t, p⟩ := fin τ2 _ (by show 1 ≤ 2; decide) p2
        refine ⟨τ, ?_, by rw [if_pos c225]; exact p⟩
        rw [if_neg (not_not_intro c225), t2]
        simp only [Option.getD_some, Option.bind_some, Option.toList_some, Option.toList_none, List.cons_append, List.nil_append, and_self, and_true, true_and, false_and, and_false, ite_self, not_true_eq_false, not_false_eq_true, reduceIte, Nat.reduceEqDiff, ab_I, ab_L, ab_R, ao_I, ao_L, ao_R, gL_sL, gI_sI, gR_sR, gI_sL, gI_sR, gL_sI, gL_sR, gR_sI, gR_sL, e118_138]
        exact t
      · obtain ⟨τ2, t2, p2⟩ := T112 (o := opQ (fI w / 16 * 16) 0) (a := 12) (b := 11) (c := fS w) c1 (by omega) (Or.inl opQ_r)
        have c2 : emC τ2 K (N + 1 + 1) := emC_p c1 p2
        obtain ⟨τ3, t3, p3⟩ := T116 (o := 19) (w := w) (a := fD w) (b := 12) (Or.inr rfl) c2 (by omega)
        obtain ⟨τ, t, p⟩ := fin τ3 _ (by show 2 ≤ 2; decide) (emP_t p2 p3 K3)
        refine ⟨τ, ?_, by rw [if_neg c225]; exact p⟩
        rw [if_pos c225, y1, T119]
        simp only [Option.getD_some, Option.bind_some, Option.toList_some, Option.toList_none, List.cons_append, List.nil_append, and_self, and_true, true_and, false_and, and_false, ite_self, not_true_eq_false, not_false_eq_true, reduceIte, Nat.reduceEqDiff, ab_I, ab_L, ab_R, ao_I, ao_L, ao_R, gL_sL, gI_sI, gR_sR, gI_sL, gI_sR, gL_sI, gL_sR, gR_sI, gR_sL]
        rw [e118_152, t2]
        simp only [Option.getD_some, Option.bind_some, Option.toList_some, Option.toList_none, List.cons_append, List.nil_append, and_self, and_true, true_and, false_and, and_false, ite_self, not_true_eq_false, not_false_eq_true, reduceIte, Nat.reduceEqDiff, ab_I, ab_L, ab_R, ao_I, ao_L, ao_R, gL_sL, gI_sI, gR_sR, gI_sL, gI_sR, gL_sI, gL_sR, gR_sI, gR_sL]
        rw [e118_161, t3]
        simp only [Option.getD_some, Option.bind_some, Option.toList_some, Option.toList_none, List.cons_append, List.nil_append, and_self, and_true, true_and, false_and, and_false, ite_self, not_true_eq_false, not_false_eq_true, reduceIte, Nat.reduceEqDiff, ab_I, ab_L, ab_R, ao_I, ao_L, ao_R, gL_sL, gI_sI, gR_sR, gI_sL, gI_sR, gL_sI, gL_sR, gR_sI, gR_sL]
        exact t
theorem T124 (h : emC σ K N) (hN : N < 1198) (b6 : 0 ≤ fI w ∧ fI w ≤ 64) : ∃ τ, MM 124 [mR (some 72), mI (fOp w), mI (fI w), mI (fD w)] σ = some (none, τ) ∧ emP σ τ K N (ordQ w) := by
  have K3 := h.2.2.1
  unfold ordQ
  by_cases o4 : fOp w = 212
  · rw [if_pos o4]
    by_cases b16 : fI w = 16
    · obtain ⟨τ1, t1, p1⟩ := T113 (r := 11) (x := 65535) h (by omega)
      have c1 : emC τ1 K (N + 1) := emC_p h p1
      obtain ⟨τ2, t2, p2⟩ := T112 (o := 10) (a := fD w) (b := fD w) (c := 11) c1 (by omega) (by omega)
      refine ⟨τ2, ?_, by rw [if_pos b16]; exact emP_t p1 p2 K3⟩
      rw [M124, e124_0, if_pos o4, if_neg (not_not_intro b16), t1]
      simp only [Option.getD_some, Option.bind_some, Option.toList_some, Option.toList_none, List.cons_append, List.nil_append, and_self, and_true, true_and, false_and, and_false, ite_self, not_true_eq_false, not_false_eq_true, reduceIte, Nat.reduceEqDiff, ab_I, ab_L, ab_R, ao_I, ao_L, ao_R, gL_sL, gI_sI, gR_sR, gI_sL, gI_sR, gL_sI, gL_sR, gR_sI, gR_sL]
      rw [e124_36, t2]
      simp only [Option.getD_some, Option.bind_some, Option.toList_some, Option.toList_none, List.cons_append, List.nil_append, and_self, and_true, true_and, false_and, and_false, ite_self, not_true_eq_false, not_false_eq_true, reduceIte, Nat.reduceEqDiff, ab_I, ab_L, ab_R, ao_I, ao_L, ao_R, gL_sL, gI_sI, gR_sR, gI_sL, gI_sR, gL_sI, gL_sR, gR_sI, gR_sL, e124_46, e124_68]
    · obtain ⟨τ1, t1, p1⟩ := T112 (o := if fI w = 32 then 15 else 1) (a := fD w) (b := fD w) (c := 0) h (by omega) (by split <;> omega)
      refine ⟨τ1, ?_, by rw [if_neg b16]; exact p1⟩
      have go : RR (lkB tb124) (B124_62, [some (mR (some 72)), some (mI (fOp w)), some (mI (fI w)), some (mI (fD w))], [mI (if fI w = 32 then 15 else 1), mR (some 72)], σ) = some (none, τ1) := by
        rw [e124_62, t1]
        simp only [Option.getD_some, Option.bind_some, Option.toList_some, Option.toList_none, List.cons_append, List.nil_append, and_self, and_true, true_and, false_and, and_false, ite_self, not_true_eq_false, not_false_eq_true, reduceIte, Nat.reduceEqDiff, ab_I, ab_L, ab_R, ao_I, ao_L, ao_R, gL_sL, gI_sI, gR_sR, gI_sL, gI_sR, gL_sI, gL_sR, gR_sI, gR_sL, e124_68]
      rw [M124, e124_0, if_pos o4, if_pos b16]
      by_cases b32 : fI w = 32
      · rw [if_pos b32] at go
        rw [if_neg (not_not_intro b32)]
        exact go
      · rw [if_neg b32] at go
        rw [if_pos b32]
        exact go
  · rw [if_neg o4]
    obtain ⟨n, hn⟩ : ∃ n : Nat, fI w = (n : Int) := ⟨(fI w).toNat, by omega⟩
    have s1 : -2147483648 ≤ ((n / 8 : Nat) : Int) ∧ ((n / 8 : Nat) : Int) < 2147483648 := by omega
    have ww : w32 (Int.tdiv (fI w) 8) = Int.tdiv (fI w) 8 := by
      rw [hn, show Int.tdiv (n : Int) 8 = ((n / 8 : Nat) : Int) from rfl, w32_i s1.1 s1.2]
    obtain ⟨τ1, t1, p1⟩ := T112 (o := 17) (a := fD w) (b := fD w) (c := Int.tdiv (fI w) 8) h (by omega) (by omega)
    refine ⟨τ1, ?_, p1⟩
    rw [M124, e124_0, if_neg o4, ww, t1]
    simp only [Option.getD_some, Option.bind_some, Option.toList_some, Option.toList_none, List.cons_append, List.nil_append, and_self, and_true, true_and, false_and, and_false, ite_self, not_true_eq_false, not_false_eq_true, reduceIte, Nat.reduceEqDiff, ab_I, ab_L, ab_R, ao_I, ao_L, ao_R, gL_sL, gI_sI, gR_sR, gI_sL, gI_sR, gL_sI, gL_sR, gR_sI, gR_sL, e124_19, e124_68]
theorem T123 (h : emC σ K N) (hN : N < 1196) : ∃ τ, MM 123 [mR (some 72), mL w, mI y] σ = some (none, τ) ∧ emP σ τ K N (halQ w y) := by
  have K3 := h.2.2.1
  have w240 : iAnd (fOp w) 240 = fC w := mC w
  have s : MM 123 [mR (some 72), mL w, mI y] σ = RR (lkB tb123) (B123_25, [some (mR (some 72)), some (mL w), none, some (mI y), some (mI (fC w)), some (mI (fD w)), none], [mI (opQ (fC w) (fO w))], σ) := by
    rw [M123, e123_0, T0]
    simp only [Option.getD_some, Option.bind_some, Option.toList_some, Option.toList_none, List.cons_append, List.nil_append, and_self, and_true, true_and, false_and, and_false, ite_self, not_true_eq_false, not_false_eq_true, reduceIte, Nat.reduceEqDiff, ab_I, ab_L, ab_R, ao_I, ao_L, ao_R, gL_sL, gI_sI, gR_sR, gI_sL, gI_sR, gL_sI, gL_sR, gR_sI, gR_sL]
    rw [e123_4, T1]
    simp only [Option.getD_some, Option.bind_some, Option.toList_some, Option.toList_none, List.cons_append, List.nil_append, and_self, and_true, true_and, false_and, and_false, ite_self, not_true_eq_false, not_false_eq_true, reduceIte, Nat.reduceEqDiff, ab_I, ab_L, ab_R, ao_I, ao_L, ao_R, gL_sL, gI_sI, gR_sR, gI_sL, gI_sR, gL_sI, gL_sR, gR_sI, gR_sL, w240]
    rw [e123_14, T3]
    simp only [Option.getD_some, Option.bind_some, Option.toList_some, Option.toList_none, List.cons_append, List.nil_append, and_self, and_true, true_and, false_and, and_false, ite_self, not_true_eq_false, not_false_eq_true, reduceIte, Nat.reduceEqDiff, ab_I, ab_L, ab_R, ao_I, ao_L, ao_R, gL_sL, gI_sI, gR_sR, gI_sL, gI_sR, gL_sI, gL_sR, gR_sI, gR_sL]
    rw [e123_22, T119]
    simp only [Option.getD_some, Option.bind_some, Option.toList_some, Option.toList_none, List.cons_append, List.nil_append, and_self, and_true, true_and, false_and, and_false, ite_self, not_true_eq_false, not_false_eq_true, reduceIte, Nat.reduceEqDiff, ab_I, ab_L, ab_R, ao_I, ao_L, ao_R, gL_sL, gI_sI, gR_sR, gI_sL, gI_sR, gL_sI, gL_sR, gR_sI, gR_sL]
  unfold halQ
  rw [s, e123_25]
  by_cases d1 : fC w = 48 ∨ fC w = 144
  · obtain ⟨τ1, t1, p1⟩ := T121 (a := 11) (b := fD w) (sg := fO w = 1) (ds := inferInstance) (s := if ¬ fO w = 1 then 0 else 1) (by
      by_cases q : fO w = 1
      · rw [if_neg (not_not_intro q)]
        simp [q]
      · rw [if_pos q]
        simp [q]) h (by omega)
    have c1 : emC τ1 K (N + 1) := emC_p h p1
    obtain ⟨τ2, t2, p2⟩ := T121 (a := 12) (b := y) (sg := fO w = 1) (ds := inferInstance) (s := if ¬ fO w = 1 then 0 else 1) (by
      by_cases q : fO w = 1
      · rw [if_neg (not_not_intro q)]
        simp [q]
      · rw [if_pos q]
        simp [q]) c1 (by omega)
    have c2 : emC τ2 K (N + 1 + 1) := emC_p c1 p2
    obtain ⟨τ3, t3, p3⟩ := T112 (o := opQ (fC w) (fO w)) (a := fD w) (b := 11) (c := 12) c2 (by omega) (Or.inl opQ_r)
    refine ⟨τ3, ?_, by rw [if_pos d1]; exact emP_t p1 (emP_t p2 p3 K3) K3⟩
    have go2 : RR (lkB tb123) (B123_118, [some (mR (some 72)), some (mL w), none, some (mI y), some (mI (fC w)), some (mI (fD w)), some (mI (opQ (fC w) (fO w)))], [mI (if ¬ fO w = 1 then 0 else 1), mI y, mI 12, mR (some 72)], τ1) = some (none, τ3) := by
      rw [e123_118, t2]
      simp only [Option.getD_some, Option.bind_some, Option.toList_some, Option.toList_none, List.cons_append, List.nil_append, and_self, and_true, true_and, false_and, and_false, ite_self, not_true_eq_false, not_false_eq_true, reduceIte, Nat.reduceEqDiff, ab_I, ab_L, ab_R, ao_I, ao_L, ao_R, gL_sL, gI_sI, gR_sR, gI_sL, gI_sR, gL_sI, gL_sR, gR_sI, gR_sL]
      rw [e123_121, t3]
      simp only [Option.getD_some, Option.bind_some, Option.toList_some, Option.toList_none, List.cons_append, List.nil_append, and_self, and_true, true_and, false_and, and_false, ite_self, not_true_eq_false, not_false_eq_true, reduceIte, Nat.reduceEqDiff, ab_I, ab_L, ab_R, ao_I, ao_L, ao_R, gL_sL, gI_sI, gR_sR, gI_sL, gI_sR, gL_sI, gL_sR, gR_sI, gR_sL, e123_133, e123_202]
    have go1 : RR (lkB tb123) (B123_98, [some (mR (some 72)), some (mL w), none, some (mI y), some (mI (fC w)), some (mI (fD w)), some (mI (opQ (fC w) (fO w)))], [mI (if ¬ fO w = 1 then 0 else 1), mI (fD w), mI 11, mR (some 72)], σ) = some (none, τ3) := by
      rw [e123_98, t1]
      simp only [Option.getD_some, Option.bind_some, Option.toList_some, Option.toList_none, List.cons_append, List.nil_append, and_self, and_true, true_and, false_and, and_false, ite_self, not_true_eq_false, not_false_eq_true, reduceIte, Nat.reduceEqDiff, ab_I, ab_L, ab_R, ao_I, ao_L, ao_R, gL_sL, gI_sI, gR_sR, gI_sL, gI_sR, gL_sI, gL_sR, gR_sI, gR_sL]
      rw [e123_101, T3]
      simp only [Option.getD_some, Option.bind_some, Option.toList_some, Option.toList_none, List.cons_append, List.nil_append, and_self, and_true, true_and, false_and, and_false, ite_self, not_true_eq_false, not_false_eq_true, reduceIte, Nat.reduceEqDiff, ab_I, ab_L, ab_R, ao_I, ao_L, ao_R, gL_sL, gI_sI, gR_sR, gI_sL, gI_sR, gL_sI, gL_sR, gR_sI, gR_sL]
      rw [e123_109]
      by_cases q : fO w = 1
      · rw [if_neg (not_not_intro q)] at go2 ⊢
        exact go2
      · rw [if_pos q] at go2 ⊢
        exact go2
    have go : RR (lkB tb123) (B123_89, [some (mR (some 72)), some (mL w), none, some (mI y), some (mI (fC w)), some (mI (fD w)), some (mI (opQ (fC w) (fO w)))], [mI (fO w), mI (fD w), mI 11, mR (some 72)], σ) = some (none, τ3) := by
      rw [e123_89]
      by_cases q : fO w = 1
      · rw [if_neg (not_not_intro q)] at go1 ⊢
        exact go1
      · rw [if_pos q] at go1 ⊢
        exact go1
    rcases d1 with e | e
    · rw [if_pos e, T3]
      simp only [Option.getD_some, Option.bind_some, Option.toList_some, Option.toList_none, List.cons_append, List.nil_append, and_self, and_true, true_and, false_and, and_false, ite_self, not_true_eq_false, not_false_eq_true, reduceIte, Nat.reduceEqDiff, ab_I, ab_L, ab_R, ao_I, ao_L, ao_R, gL_sL, gI_sI, gR_sR, gI_sL, gI_sR, gL_sI, gL_sR, gR_sI, gR_sL]
      exact go
    · rw [if_neg (by omega), if_neg (by omega), if_neg (by omega), if_pos e, T3]
      simp only [Option.getD_some, Option.bind_some, Option.toList_some, Option.toList_none, List.cons_append, List.nil_append, and_self, and_true, true_and, false_and, and_false, ite_self, not_true_eq_false, not_false_eq_true, reduceIte, Nat.reduceEqDiff, ab_I, ab_L, ab_R, ao_I, ao_L, ao_R, gL_sL, gI_sI, gR_sR, gI_sL, gI_sR, gL_sI, gL_sR, gR_sI, gR_sL]
      exact go
  · rw [if_neg d1]
    by_cases d2 : fC w = 96 ∨ fC w = 112 ∨ fC w = 192
    · obtain ⟨τ1, t1, p1⟩ := T113 (r := 13) (x := 31) h (by omega)
      have c1 : emC τ1 K (N + 1) := emC_p h p1
      obtain ⟨τ2, t2, p2⟩ := T112 (o := 10) (a := 12) (b := y) (c := 13) c1 (by omega) (by omega)
      have c2 : emC τ2 K (N + 1 + 1) := emC_p c1 p2
      obtain ⟨τ3, t3, p3⟩ := T121 (a := 11) (b := fD w) (sg := fC w = 192) (ds := inferInstance) (s := if ¬ fC w = 192 then 0 else 1) (by
        by_cases q : fC w = 192
        · rw [if_neg (not_not_intro q)]
          simp [q]
        · rw [if_pos q]
          simp [q]) c2 (by omega)
      have c3 : emC τ3 K (N + 1 + 1 + 1) := emC_p c2 p3
      obtain ⟨τ4, t4, p4⟩ := T112 (o := opQ (fC w) (fO w)) (a := fD w) (b := 11) (c := 12) c3 (by omega) (Or.inl opQ_r)
      refine ⟨τ4, ?_, by rw [if_pos d2]; exact emP_t p1 (emP_t p2 (emP_t p3 p4 K3) K3) K3⟩
      have go1 : RR (lkB tb123) (B123_173, [some (mR (some 72)), some (mL w), none, some (mI y), some (mI (fC w)), some (mI (fD w)), some (mI (opQ (fC w) (fO w)))], [mI (if ¬ fC w = 192 then 0 else 1), mI (fD w), mI 11, mR (some 72)], τ2) = some (none, τ4) := by
        rw [e123_173, t3]
        simp only [Option.getD_some, Option.bind_some, Option.toList_some, Option.toList_none, List.cons_append, List.nil_append, and_self, and_true, true_and, false_and, and_false, ite_self, not_true_eq_false, not_false_eq_true, reduceIte, Nat.reduceEqDiff, ab_I, ab_L, ab_R, ao_I, ao_L, ao_R, gL_sL, gI_sI, gR_sR, gI_sL, gI_sR, gL_sI, gL_sR, gR_sI, gR_sL]
        rw [e123_176, t4]
        simp only [Option.getD_some, Option.bind_some, Option.toList_some, Option.toList_none, List.cons_append, List.nil_append, and_self, and_true, true_and, false_and, and_false, ite_self, not_true_eq_false, not_false_eq_true, reduceIte, Nat.reduceEqDiff, ab_I, ab_L, ab_R, ao_I, ao_L, ao_R, gL_sL, gI_sI, gR_sR, gI_sL, gI_sR, gL_sI, gL_sR, gR_sI, gR_sL, e123_188, e123_202]
      have go : ∀ c', c' = fC w → RR (lkB tb123) (B123_144, [some (mR (some 72)), some (mL w), none, some (mI y), some (mI (fC w)), some (mI (fD w)), some (mI (opQ (fC w) (fO w)))], [], τ1) = some (none, τ4) := fun c' _ => by
        rw [e123_144, t2]
        simp only [Option.getD_some, Option.bind_some, Option.toList_some, Option.toList_none, List.cons_append, List.nil_append, and_self, and_true, true_and, false_and, and_false, ite_self, not_true_eq_false, not_false_eq_true, reduceIte, Nat.reduceEqDiff, ab_I, ab_L, ab_R, ao_I, ao_L, ao_R, gL_sL, gI_sI, gR_sR, gI_sL, gI_sR, gL_sI, gL_sR, gR_sI, gR_sL]
        rw [e123_155]
        by_cases q : fC w = 192
        · rw [if_neg (not_not_intro q)] at go1 ⊢
          exact go1
        · rw [if_pos q] at go1 ⊢
          exact go1
      have go := go _ rfl
      rcases d2 with e | e | e
      · rw [if_neg (by omega), if_pos e, t1]
        simp only [Option.getD_some, Option.bind_some, Option.toList_some, Option.toList_none, List.cons_append, List.nil_append, and_self, and_true, true_and, false_and, and_false, ite_self, not_true_eq_false, not_false_eq_true, reduceIte, Nat.reduceEqDiff, ab_I, ab_L, ab_R, ao_I, ao_L, ao_R, gL_sL, gI_sI, gR_sR, gI_sL, gI_sR, gL_sI, gL_sR, gR_sI, gR_sL]
        exact go
      · rw [if_neg (by omega), if_neg (by omega), if_pos e, t1]
        simp only [Option.getD_some, Option.bind_some, Option.toList_some, Option.toList_none, List.cons_append, List.nil_append, and_self, and_true, true_and, false_and, and_false, ite_self, not_true_eq_false, not_false_eq_true, reduceIte, Nat.reduceEqDiff, ab_I, ab_L, ab_R, ao_I, ao_L, ao_R, gL_sL, gI_sI, gR_sR, gI_sL, gI_sR, gL_sI, gL_sR, gR_sI, gR_sL]
        exact go
      · rw [if_neg (by omega), if_neg (by omega), if_neg (by omega), if_neg (by omega), if_pos e, t1]
        simp only [Option.getD_some, Option.bind_some, Option.toList_some, Option.toList_none, List.cons_append, List.nil_append, and_self, and_true, true_and, false_and, and_false, ite_self, not_true_eq_false, not_false_eq_true, reduceIte, Nat.reduceEqDiff, ab_I, ab_L, ab_R, ao_I, ao_L, ao_R, gL_sL, gI_sI, gR_sR, gI_sL, gI_sR, gL_sI, gL_sR, gR_sI, gR_sL]
        exact go
    · obtain ⟨τ1, t1, p1⟩ := T112 (o := opQ (fC w) (fO w)) (a := fD w) (b := fD w) (c := y) h (by omega) (Or.inl opQ_r)
      refine ⟨τ1, ?_, by rw [if_neg d2]; exact p1⟩
      rw [if_neg (by omega), if_neg (by omega), if_neg (by omega), if_neg (by omega), if_neg (by omega), t1]
      simp only [Option.getD_some, Option.bind_some, Option.toList_some, Option.toList_none, List.cons_append, List.nil_append, and_self, and_true, true_and, false_and, and_false, ite_self, not_true_eq_false, not_false_eq_true, reduceIte, Nat.reduceEqDiff, ab_I, ab_L, ab_R, ao_I, ao_L, ao_R, gL_sL, gI_sI, gR_sR, gI_sL, gI_sR, gL_sI, gL_sR, gR_sI, gR_sL, e123_202]
theorem sidL_l : (sidL w).length ≤ 1 := by
  unfold sidL
  split
  · decide
  · exact Nat.le_refl 1
theorem halQ_l : (halQ w y).length ≤ 4 := by
  unfold halQ
  split
  · show 3 ≤ 4; decide
  · split
    · exact Nat.le_refl 4
    · show 1 ≤ 4; decide
theorem T122 (l47 : fL w = 4 ∨ fL w = 7) (ho : okAlu w) (h : emC σ K N) (hN : N < 1195) : ∃ τ, MM 122 [mR (some 72), mL w] σ = some (none, τ) ∧ emP σ τ K N (aluQ w) := by
  have K3 := h.2.2.1
  have w240 : iAnd (fOp w) 240 = fC w := mC w
  have w7 : iAnd (fOp w) 7 = fL w := m7 w
  obtain ⟨W, hW⟩ : ∃ W : Int, W = if ¬ fL w = 7 then 0 else 1 := ⟨_, rfl⟩
  have s : MM 122 [mR (some 72), mL w] σ = RR (lkB tb122) (B122_32, [some (mR (some 72)), some (mL w), none, some (mI (fOp w)), some (mI (fC w)), some (mI (fD w)), none, none], [mI W], σ) := by
    rw [M122, e122_0, T0]
    simp only [Option.getD_some, Option.bind_some, Option.toList_some, Option.toList_none, List.cons_append, List.nil_append, and_self, and_true, true_and, false_and, and_false, ite_self, not_true_eq_false, not_false_eq_true, reduceIte, Nat.reduceEqDiff, ab_I, ab_L, ab_R, ao_I, ao_L, ao_R, gL_sL, gI_sI, gR_sR, gI_sL, gI_sR, gL_sI, gL_sR, gR_sI, gR_sL]
    rw [e122_4, T1]
    simp only [Option.getD_some, Option.bind_some, Option.toList_some, Option.toList_none, List.cons_append, List.nil_append, and_self, and_true, true_and, false_and, and_false, ite_self, not_true_eq_false, not_false_eq_true, reduceIte, Nat.reduceEqDiff, ab_I, ab_L, ab_R, ao_I, ao_L, ao_R, gL_sL, gI_sI, gR_sR, gI_sL, gI_sR, gL_sI, gL_sR, gR_sI, gR_sL, w240]
    rw [e122_16, w7, hW]
    by_cases q : fL w = 7
    · rw [if_neg (not_not_intro q), if_neg (not_not_intro q)]
    · rw [if_pos q, if_pos q]
  -- the end
  have fin : ∀ (τ2 : MS) (M : List Q4) (x7 : Option MV), ¬ fC w = 208 → M.length ≤ 5 → emP σ τ2 K N M → ∃ τ, RR (lkB tb122) (B122_166, [some (mR (some 72)), some (mL w), none, some (mI (fOp w)), some (mI (fC w)), some (mI (fD w)), some (mI W), none], [], τ2) = some (none, τ) ∧ emP σ τ K N (M ++ (if fL w = 7 then [] else [(15, fD w, fD w, 0)])) := fun τ2 M x7 c208 lM p2 => by
    have c2 := emC_p h p2
    by_cases q : fL w = 7
    · refine ⟨τ2, ?_, by rw [if_pos q, List.append_nil]; exact p2⟩
      rw [e122_166, hW, if_neg (not_not_intro q), if_pos (by decide), e122_190]
    · obtain ⟨τ3, t3, p3⟩ := T112 (o := 15) (a := fD w) (b := fD w) (c := 0) c2 (by omega) (by omega)
      refine ⟨τ3, ?_, by rw [if_neg q]; exact emP_t p2 p3 K3⟩
      rw [e122_166, hW, if_pos q, if_neg (by decide), if_neg c208, t3]
      simp only [Option.getD_some, Option.bind_some, Option.toList_some, Option.toList_none, List.cons_append, List.nil_append, and_self, and_true, true_and, false_and, and_false, ite_self, not_true_eq_false, not_false_eq_true, reduceIte, Nat.reduceEqDiff, ab_I, ab_L, ab_R, ao_I, ao_L, ao_R, gL_sL, gI_sI, gR_sR, gI_sL, gI_sR, gL_sI, gL_sR, gR_sI, gR_sL, e122_190]
  unfold aluQ
  rw [s, e122_32]
  by_cases c208 : fC w = 208
  · have b6 : 0 ≤ fI w ∧ fI w ≤ 64 := by
      have q := ho.2
      rw [if_pos c208] at q
      have := q.2.2.2
      omega
    obtain ⟨τ, t, p⟩ := T124 (w := w) h (by omega) b6
    refine ⟨τ, ?_, by rw [if_pos c208]; exact p⟩
    rw [if_neg (not_not_intro c208), T4]
    simp only [Option.getD_some, Option.bind_some, Option.toList_some, Option.toList_none, List.cons_append, List.nil_append, and_self, and_true, true_and, false_and, and_false, ite_self, not_true_eq_false, not_false_eq_true, reduceIte, Nat.reduceEqDiff, ab_I, ab_L, ab_R, ao_I, ao_L, ao_R, gL_sL, gI_sI, gR_sR, gI_sL, gI_sR, gL_sI, gL_sR, gR_sI, gR_sL]
    rw [e122_48, t]
    simp only [Option.getD_some, Option.bind_some, Option.toList_some, Option.toList_none, List.cons_append, List.nil_append, and_self, and_true, true_and, false_and, and_false, ite_self, not_true_eq_false, not_false_eq_true, reduceIte, Nat.reduceEqDiff, ab_I, ab_L, ab_R, ao_I, ao_L, ao_R, gL_sL, gI_sI, gR_sR, gI_sL, gI_sR, gL_sI, gL_sR, gR_sI, gR_sL, e122_53]
    rw [e122_166, if_pos c208, e122_190]
    split <;> rfl
  · rw [if_pos c208, if_neg c208]
    by_cases c128 : fC w = 128
    · obtain ⟨τ1, t1, p1⟩ := T113 (r := 11) (x := 0) h (by omega)
      have c1 : emC τ1 K (N + 1) := emC_p h p1
      obtain ⟨τ2, t2, p2⟩ := T112 (o := 3) (a := fD w) (b := 11) (c := fD w) c1 (by omega) (by omega)
      obtain ⟨τ, t, p⟩ := fin τ2 _ none c208 (by show 2 ≤ 5; decide) (emP_t p1 p2 K3)
      refine ⟨τ, ?_, by rw [if_pos c128]; exact p⟩
      rw [if_neg (not_not_intro c128), t1]
      simp only [Option.getD_some, Option.bind_some, Option.toList_some, Option.toList_none, List.cons_append, List.nil_append, and_self, and_true, true_and, false_and, and_false, ite_self, not_true_eq_false, not_false_eq_true, reduceIte, Nat.reduceEqDiff, ab_I, ab_L, ab_R, ao_I, ao_L, ao_R, gL_sL, gI_sI, gR_sR, gI_sL, gI_sR, gL_sI, gL_sR, gR_sI, gR_sL]
      rw [e122_71, t2]
      simp only [Option.getD_some, Option.bind_some, Option.toList_some, Option.toList_none, List.cons_append, List.nil_append, and_self, and_true, true_and, false_and, and_false, ite_self, not_true_eq_false, not_false_eq_true, reduceIte, Nat.reduceEqDiff, ab_I, ab_L, ab_R, ao_I, ao_L, ao_R, gL_sL, gI_sI, gR_sR, gI_sL, gI_sR, gL_sI, gL_sR, gR_sI, gR_sL, e122_82]
      exact t
    · rw [if_pos c128, if_neg c128]
      obtain ⟨τ1, t1, p1⟩ := T120 (w := w) h (by omega)
      have l1 := sidL_l (w := w)
      have c1 := emC_p h p1
      by_cases c176 : fC w = 176
      · obtain ⟨τ2, t2, p2⟩ := T112 (o := if fO w = 0 then 1 else 16) (a := fD w) (b := sidR w) (c := fO w) c1 (by omega) (by split <;> omega)
        obtain ⟨τ, t, p⟩ := fin τ2 _ none c208 (by rw [List.length_append]; show (sidL w).length + 1 ≤ 5; omega) (emP_t p1 p2 K3)
        refine ⟨τ, ?_, by rw [if_pos c176]; exact p⟩
        have go : RR (lkB tb122) (B122_111, [some (mR (some 72)), some (mL w), none, some (mI (fOp w)), some (mI (fC w)), some (mI (fD w)), some (mI W), some (mI (fO w))], [mI (if fO w = 0 then 1 else 16), mR (some 72)], σ) = some (none, τ) := by
          rw [e122_111, t1]
          simp only [Option.getD_some, Option.bind_some, Option.toList_some, Option.toList_none, List.cons_append, List.nil_append, and_self, and_true, true_and, false_and, and_false, ite_self, not_true_eq_false, not_false_eq_true, reduceIte, Nat.reduceEqDiff, ab_I, ab_L, ab_R, ao_I, ao_L, ao_R, gL_sL, gI_sI, gR_sR, gI_sL, gI_sR, gL_sI, gL_sR, gR_sI, gR_sL]
          rw [e122_118, t2]
          simp only [Option.getD_some, Option.bind_some, Option.toList_some, Option.toList_none, List.cons_append, List.nil_append, and_self, and_true, true_and, false_and, and_false, ite_self, not_true_eq_false, not_false_eq_true, reduceIte, Nat.reduceEqDiff, ab_I, ab_L, ab_R, ao_I, ao_L, ao_R, gL_sL, gI_sI, gR_sR, gI_sL, gI_sR, gL_sI, gL_sR, gR_sI, gR_sL, e122_123]
          exact RR_q t (by repeat (first | exact lq_nil | refine lq_cons (Or.inr rfl) ?_ | refine lq_cons (Or.inl rfl) ?_))
        rw [if_neg (not_not_intro c176), T3]
        simp only [Option.getD_some, Option.bind_some, Option.toList_some, Option.toList_none, List.cons_append, List.nil_append, and_self, and_true, true_and, false_and, and_false, ite_self, not_true_eq_false, not_false_eq_true, reduceIte, Nat.reduceEqDiff, ab_I, ab_L, ab_R, ao_I, ao_L, ao_R, gL_sL, gI_sI, gR_sR, gI_sL, gI_sR, gL_sI, gL_sR, gR_sI, gR_sL]
        rw [e122_97]
        by_cases q : fO w = 0
        · rw [if_pos q] at go
          rw [if_neg (not_not_intro q)]
          exact go
        · rw [if_neg q] at go
          rw [if_pos q]
          exact go
      · rw [if_pos c176, if_neg c176]
        by_cases q7 : fL w = 7
        · obtain ⟨τ2, t2, p2⟩ := T112 (o := opQ (fC w) (fO w)) (a := fD w) (b := fD w) (c := sidR w) c1 (by omega) (Or.inl opQ_r)
          obtain ⟨τ, t, p⟩ := fin τ2 _ none c208 (by rw [List.length_append]; show (sidL w).length + 1 ≤ 5; omega) (emP_t p1 p2 K3)
          refine ⟨τ, ?_, by rw [if_pos q7]; exact p⟩
          have w1 : ¬ W = 0 := by rw [hW, if_neg (not_not_intro q7)]; decide
          rw [if_neg w1, T3]
          simp only [Option.getD_some, Option.bind_some, Option.toList_some, Option.toList_none, List.cons_append, List.nil_append, and_self, and_true, true_and, false_and, and_false, ite_self, not_true_eq_false, not_false_eq_true, reduceIte, Nat.reduceEqDiff, ab_I, ab_L, ab_R, ao_I, ao_L, ao_R, gL_sL, gI_sI, gR_sR, gI_sL, gI_sR, gL_sI, gL_sR, gR_sI, gR_sL]
          rw [e122_138, T119]
          simp only [Option.getD_some, Option.bind_some, Option.toList_some, Option.toList_none, List.cons_append, List.nil_append, and_self, and_true, true_and, false_and, and_false, ite_self, not_true_eq_false, not_false_eq_true, reduceIte, Nat.reduceEqDiff, ab_I, ab_L, ab_R, ao_I, ao_L, ao_R, gL_sL, gI_sI, gR_sR, gI_sL, gI_sR, gL_sI, gL_sR, gR_sI, gR_sL]
          rw [e122_141, t1]
          simp only [Option.getD_some, Option.bind_some, Option.toList_some, Option.toList_none, List.cons_append, List.nil_append, and_self, and_true, true_and, false_and, and_false, ite_self, not_true_eq_false, not_false_eq_true, reduceIte, Nat.reduceEqDiff, ab_I, ab_L, ab_R, ao_I, ao_L, ao_R, gL_sL, gI_sI, gR_sR, gI_sL, gI_sR, gL_sI, gL_sR, gR_sI, gR_sL]
          rw [e122_150, t2]
          simp only [Option.getD_some, Option.bind_some, Option.toList_some, Option.toList_none, List.cons_append, List.nil_append, and_self, and_true, true_and, false_and, and_false, ite_self, not_true_eq_false, not_false_eq_true, reduceIte, Nat.reduceEqDiff, ab_I, ab_L, ab_R, ao_I, ao_L, ao_R, gL_sL, gI_sI, gR_sR, gI_sL, gI_sR, gL_sI, gL_sR, gR_sI, gR_sL, e122_153]
          exact t
        · obtain ⟨τ2, t2, p2⟩ := T123 (w := w) (y := sidR w) c1 (by omega)
          have l2 := halQ_l (w := w) (y := sidR w)
          obtain ⟨τ, t, p⟩ := fin τ2 _ none c208 (by rw [List.length_append]; omega) (emP_t p1 p2 K3)
          refine ⟨τ, ?_, by rw [if_neg q7]; exact p⟩
          have w1 : W = 0 := by rw [hW, if_pos q7]
          rw [if_pos w1, t1]
          simp only [Option.getD_some, Option.bind_some, Option.toList_some, Option.toList_none, List.cons_append, List.nil_append, and_self, and_true, true_and, false_and, and_false, ite_self, not_true_eq_false, not_false_eq_true, reduceIte, Nat.reduceEqDiff, ab_I, ab_L, ab_R, ao_I, ao_L, ao_R, gL_sL, gI_sI, gR_sR, gI_sL, gI_sR, gL_sI, gL_sR, gR_sI, gR_sL]
          rw [e122_163, t2]
          simp only [Option.getD_some, Option.bind_some, Option.toList_some, Option.toList_none, List.cons_append, List.nil_append, and_self, and_true, true_and, false_and, and_false, ite_self, not_true_eq_false, not_false_eq_true, reduceIte, Nat.reduceEqDiff, ab_I, ab_L, ab_R, ao_I, ao_L, ao_R, gL_sL, gI_sI, gR_sR, gI_sL, gI_sR, gL_sI, gL_sR, gR_sI, gR_sL]
          exact t
theorem T126 (h : emC σ K N) (hN : N < 1197) : ∃ τ, MM 126 [mR (some 72), mI (fOp w), mI a, mI b, mI t] σ = some (none, τ) ∧ emP σ τ K N (if fL w = 6 then [@hafQ 11 a (sgnQ (fC w)) (Classical.propDecidable _), @hafQ 12 b (sgnQ (fC w)) (Classical.propDecidable _), cnqQ (fC w) t 11 12] else [cnqQ (fC w) t a b]) := by
  have K3 := h.2.2.1
  have w240 : iAnd (fOp w) 240 = fC w := mC w
  have w7 : iAnd (fOp w) 7 = fL w := m7 w
  have r := cndQ_r (c := fC w)
  have fin : ∀ (ρ : MS) (M : Nat) (x y : Int) (x8 : Option MV), emC ρ K M → M < 1200 → ∃ τ, RR (lkB tb126) (B126_87, [some (mR (some 72)), some (mI (fOp w)), some (mI a), some (mI b), some (mI t), some (mI (fC w)), some (mI x), some (mI y), none], [], ρ) = some (none, τ) ∧ emP ρ τ K M [cnqQ (fC w) t x y] := fun ρ M x y x8 hc hM => by
    have o1 : iOr (cndQ (fC w)) 131072 = cndQ (fC w) + 131072 := by
      have : ∀ z : Int, z = 20 ∨ z = 21 ∨ z = 22 ∨ z = 23 ∨ z = 24 ∨ z = 25 ∨ z = 26 → iOr z 131072 = z + 131072 := by
        intro z hz
        rcases hz with e | e | e | e | e | e | e <;> (rw [e]; decide)
      refine this _ ?_
      unfold cndQ
      repeat' split
      all_goals decide
    obtain ⟨τ1, t1, p1⟩ := T112 (o := cndQ (fC w) + 131072) (a := t) (b := if 160 ≤ fC w then y else x) (c := if 160 ≤ fC w then x else y) hc hM (by omega)
    refine ⟨τ1, ?_, p1⟩
    rw [e126_87]
    by_cases q : fC w < 160
    · rw [if_neg (show ¬ 160 ≤ fC w by omega), if_neg (show ¬ 160 ≤ fC w by omega)] at t1
      rw [if_pos q, e126_100, T127]
      simp only [Option.getD_some, Option.bind_some, Option.toList_some, Option.toList_none, List.cons_append, List.nil_append, and_self, and_true, true_and, false_and, and_false, ite_self, not_true_eq_false, not_false_eq_true, reduceIte, Nat.reduceEqDiff, ab_I, ab_L, ab_R, ao_I, ao_L, ao_R, gL_sL, gI_sI, gR_sR, gI_sL, gI_sR, gL_sI, gL_sR, gR_sI, gR_sL]
      rw [e126_108, if_pos rfl, o1, e126_125, if_pos rfl, e126_137, t1]
      simp only [Option.getD_some, Option.bind_some, Option.toList_some, Option.toList_none, List.cons_append, List.nil_append, and_self, and_true, true_and, false_and, and_false, ite_self, not_true_eq_false, not_false_eq_true, reduceIte, Nat.reduceEqDiff, ab_I, ab_L, ab_R, ao_I, ao_L, ao_R, gL_sL, gI_sI, gR_sR, gI_sL, gI_sR, gL_sI, gL_sR, gR_sI, gR_sL, e126_140]
    · rw [if_pos (show 160 ≤ fC w by omega), if_pos (show 160 ≤ fC w by omega)] at t1
      rw [if_neg q, e126_100, T127]
      simp only [Option.getD_some, Option.bind_some, Option.toList_some, Option.toList_none, List.cons_append, List.nil_append, and_self, and_true, true_and, false_and, and_false, ite_self, not_true_eq_false, not_false_eq_true, reduceIte, Nat.reduceEqDiff, ab_I, ab_L, ab_R, ao_I, ao_L, ao_R, gL_sL, gI_sI, gR_sR, gI_sL, gI_sR, gL_sI, gL_sR, gR_sI, gR_sL]
      rw [e126_108, if_neg (by decide), o1, e126_125, if_neg (by decide), e126_137, t1]
      simp only [Option.getD_some, Option.bind_some, Option.toList_some, Option.toList_none, List.cons_append, List.nil_append, and_self, and_true, true_and, false_and, and_false, ite_self, not_true_eq_false, not_false_eq_true, reduceIte, Nat.reduceEqDiff, ab_I, ab_L, ab_R, ao_I, ao_L, ao_R, gL_sL, gI_sI, gR_sR, gI_sL, gI_sR, gL_sI, gL_sR, gR_sI, gR_sL, e126_140]
  rw [M126, e126_0, w7, w240]
  by_cases l6 : fL w = 6
  · rw [if_neg (not_not_intro l6), if_pos l6]
    obtain ⟨sg, hsg⟩ : ∃ sg : Int, (sg = 0) = ¬ sgnQ (fC w) ∧ (sg = 0 ∨ sg = 1) := by
      by_cases q : sgnQ (fC w)
      · exact ⟨1, by simp [q], Or.inr rfl⟩
      · exact ⟨0, by simp [q], Or.inl rfl⟩
    obtain ⟨τ1, t1, p1⟩ := T121 (a := 11) (b := a) (ds := Classical.propDecidable _) hsg.1 h (by omega)
    have c1 : emC τ1 K (N + 1) := emC_p h p1
    obtain ⟨τ2, t2, p2⟩ := T121 (a := 12) (b := b) (ds := Classical.propDecidable _) hsg.1 c1 (by omega)
    have c2 : emC τ2 K (N + 1 + 1) := emC_p c1 p2
    obtain ⟨τ3, t3, p3⟩ := fin τ2 _ 11 12 none c2 (by omega)
    refine ⟨τ3, ?_, emP_t p1 (emP_t p2 p3 K3) K3⟩
    have go : RR (lkB tb126) (B126_57, [some (mR (some 72)), some (mI (fOp w)), some (mI a), some (mI b), some (mI t), some (mI (fC w)), some (mI a), some (mI b), none], [mI sg], σ) = some (none, τ3) := by
      rw [e126_57, t1]
      simp only [Option.getD_some, Option.bind_some, Option.toList_some, Option.toList_none, List.cons_append, List.nil_append, and_self, and_true, true_and, false_and, and_false, ite_self, not_true_eq_false, not_false_eq_true, reduceIte, Nat.reduceEqDiff, ab_I, ab_L, ab_R, ao_I, ao_L, ao_R, gL_sL, gI_sI, gR_sR, gI_sL, gI_sR, gL_sI, gL_sR, gR_sI, gR_sL]
      rw [e126_69, t2]
      simp only [Option.getD_some, Option.bind_some, Option.toList_some, Option.toList_none, List.cons_append, List.nil_append, and_self, and_true, true_and, false_and, and_false, ite_self, not_true_eq_false, not_false_eq_true, reduceIte, Nat.reduceEqDiff, ab_I, ab_L, ab_R, ao_I, ao_L, ao_R, gL_sL, gI_sI, gR_sR, gI_sL, gI_sR, gL_sI, gL_sR, gR_sI, gR_sL]
      rw [e126_79]
      exact RR_q t3 (by repeat (first | exact lq_nil | refine lq_cons (Or.inr rfl) ?_ | refine lq_cons (Or.inl rfl) ?_))
    by_cases q : sgnQ (fC w)
    · have s1 : sg = 1 := by
        rcases hsg.2 with e | e
        · exact absurd q (by rw [← hsg.1]; exact e)
        · exact e
      rw [s1] at go
      have g52 : RR (lkB tb126) (B126_52, [some (mR (some 72)), some (mI (fOp w)), some (mI a), some (mI b), some (mI t), some (mI (fC w)), some (mI a), some (mI b), none], [], σ) = some (none, τ3) := by
        rw [e126_52]
        exact go
      rcases q with e | e | e | e
      · rw [if_pos e]; exact g52
      · rw [if_neg (by omega), if_pos e]; exact g52
      · rw [if_neg (by omega), if_neg (by omega), if_pos e]; exact g52
      · rw [if_neg (by omega), if_neg (by omega), if_neg (by omega), if_neg (not_not_intro e)]; exact g52
    · have s0 : sg = 0 := by rw [hsg.1]; exact q
      rw [s0] at go
      have n1 : ¬ fC w = 96 := fun e => q (Or.inl e)
      have n2 : ¬ fC w = 112 := fun e => q (Or.inr (Or.inl e))
      have n3 : ¬ fC w = 192 := fun e => q (Or.inr (Or.inr (Or.inl e)))
      have n4 : ¬ fC w = 208 := fun e => q (Or.inr (Or.inr (Or.inr e)))
      rw [if_neg n1, if_neg n2, if_neg n3, if_pos n4]
      exact go
  · rw [if_pos l6, if_neg l6]
    exact fin σ N a b none h (by omega)
theorem T125 (h : emC σ K N) (hN : N < 1195) : ∃ τ, MM 125 [mR (some 72), mL w, mI t] σ = some (none, τ) ∧ emP σ τ K N (jmpQ w t) := by
  have K3 := h.2.2.1
  unfold jmpQ
  rw [M125, e125_0, T0]
  simp only [Option.getD_some, Option.bind_some, Option.toList_some, Option.toList_none, List.cons_append, List.nil_append, and_self, and_true, true_and, false_and, and_false, ite_self, not_true_eq_false, not_false_eq_true, reduceIte, Nat.reduceEqDiff, ab_I, ab_L, ab_R, ao_I, ao_L, ao_R, gL_sL, gI_sI, gR_sR, gI_sL, gI_sR, gL_sI, gL_sR, gR_sI, gR_sL]
  rw [e125_4]
  by_cases o149 : fOp w = 149
  · obtain ⟨τ1, t1, p1⟩ := T112 (o := 29) (a := 0) (b := 0) (c := 0) h (by omega) (by omega)
    refine ⟨τ1, ?_, by rw [if_pos o149]; exact p1⟩
    rw [if_neg (not_not_intro o149), t1]
    simp only [Option.getD_some, Option.bind_some, Option.toList_some, Option.toList_none, List.cons_append, List.nil_append, and_self, and_true, true_and, false_and, and_false, ite_self, not_true_eq_false, not_false_eq_true, reduceIte, Nat.reduceEqDiff, ab_I, ab_L, ab_R, ao_I, ao_L, ao_R, gL_sL, gI_sI, gR_sR, gI_sL, gI_sR, gL_sI, gL_sR, gR_sI, gR_sL, e125_23, e125_137]
  · rw [if_pos o149, if_neg o149]
    by_cases hlp : fOp w = 133 ∧ fS w = 0
    · obtain ⟨τ1, t1, p1⟩ := T112 (o := 30) (a := fI w) (b := 0) (c := 0) h (by omega) (by omega)
      refine ⟨τ1, ?_, by rw [if_pos hlp]; exact p1⟩
      rw [if_neg (not_not_intro hlp.1), T2]
      simp only [Option.getD_some, Option.bind_some, Option.toList_some, Option.toList_none, List.cons_append, List.nil_append, and_self, and_true, true_and, false_and, and_false, ite_self, not_true_eq_false, not_false_eq_true, reduceIte, Nat.reduceEqDiff, ab_I, ab_L, ab_R, ao_I, ao_L, ao_R, gL_sL, gI_sI, gR_sR, gI_sL, gI_sR, gL_sI, gL_sR, gR_sI, gR_sL]
      rw [e125_38, if_neg (not_not_intro hlp.2), T4]
      simp only [Option.getD_some, Option.bind_some, Option.toList_some, Option.toList_none, List.cons_append, List.nil_append, and_self, and_true, true_and, false_and, and_false, ite_self, not_true_eq_false, not_false_eq_true, reduceIte, Nat.reduceEqDiff, ab_I, ab_L, ab_R, ao_I, ao_L, ao_R, gL_sL, gI_sI, gR_sR, gI_sL, gI_sR, gL_sI, gL_sR, gR_sI, gR_sL]
      rw [e125_48, t1]
      simp only [Option.getD_some, Option.bind_some, Option.toList_some, Option.toList_none, List.cons_append, List.nil_append, and_self, and_true, true_and, false_and, and_false, ite_self, not_true_eq_false, not_false_eq_true, reduceIte, Nat.reduceEqDiff, ab_I, ab_L, ab_R, ao_I, ao_L, ao_R, gL_sL, gI_sI, gR_sR, gI_sL, gI_sR, gL_sI, gL_sR, gR_sI, gR_sL, e125_53, e125_137]
    · rw [if_neg hlp]
      have go : (∃ τ, RR (lkB tb125) (B125_56, [some (mR (some 72)), some (mL w), none, some (mI t), some (mI (fOp w))], [], σ) = some (none, τ) ∧ emP σ τ K N (if t < 0 then [(27, -1, 0, 0)] else if fOp w = 133 then [(28 + 131072, t, 0, 0)] else if fOp w = 5 ∨ fOp w = 6 then [(27 + 131072, t, 0, 0)] else sidL w ++ (if fL w = 6 then [@hafQ 11 (fD w) (sgnQ (fC w)) (Classical.propDecidable _), @hafQ 12 (sidR w) (sgnQ (fC w)) (Classical.propDecidable _), cnqQ (fC w) t 11 12] else [cnqQ (fC w) t (fD w) (sidR w)]))) := by
        rw [e125_56]
        by_cases tn : t < 0
        · obtain ⟨τ1, t1, p1⟩ := T112 (o := 27) (a := -1) (b := 0) (c := 0) h (by omega) (by omega)
          refine ⟨τ1, ?_, by rw [if_pos tn]; exact p1⟩
          rw [if_neg (by omega), t1]
          simp only [Option.getD_some, Option.bind_some, Option.toList_some, Option.toList_none, List.cons_append, List.nil_append, and_self, and_true, true_and, false_and, and_false, ite_self, not_true_eq_false, not_false_eq_true, reduceIte, Nat.reduceEqDiff, ab_I, ab_L, ab_R, ao_I, ao_L, ao_R, gL_sL, gI_sI, gR_sR, gI_sL, gI_sR, gL_sI, gL_sR, gR_sI, gR_sL, e125_69, e125_137]
        · rw [if_pos (show 0 ≤ t by omega), if_neg tn]
          by_cases j : fOp w = 133 ∨ fOp w = 5 ∨ fOp w = 6
          · obtain ⟨τ1, t1, p1⟩ := T112 (o := (if ¬ fOp w = 133 then 27 else 28) + 131072) (a := t) (b := 0) (c := 0) h (by omega) (by split <;> omega)
            have e27 : iOr 27 131072 = 27 + 131072 := by decide
            have e28 : iOr 28 131072 = 28 + 131072 := by decide
            have g93 : RR (lkB tb125) (B125_93, [some (mR (some 72)), some (mL w), none, some (mI t), some (mI (fOp w))], [], σ) = some (none, τ1) := by
              rw [e125_93]
              by_cases o133 : fOp w = 133
              · rw [if_neg (not_not_intro o133)] at t1 ⊢
                rw [e125_109, e28, t1]
                simp only [Option.getD_some, Option.bind_some, Option.toList_some, Option.toList_none, List.cons_append, List.nil_append, and_self, and_true, true_and, false_and, and_false, ite_self, not_true_eq_false, not_false_eq_true, reduceIte, Nat.reduceEqDiff, ab_I, ab_L, ab_R, ao_I, ao_L, ao_R, gL_sL, gI_sI, gR_sR, gI_sL, gI_sR, gL_sI, gL_sR, gR_sI, gR_sL, e125_118, e125_137]
              · rw [if_pos o133] at t1 ⊢
                rw [e125_109, e27, t1]
                simp only [Option.getD_some, Option.bind_some, Option.toList_some, Option.toList_none, List.cons_append, List.nil_append, and_self, and_true, true_and, false_and, and_false, ite_self, not_true_eq_false, not_false_eq_true, reduceIte, Nat.reduceEqDiff, ab_I, ab_L, ab_R, ao_I, ao_L, ao_R, gL_sL, gI_sI, gR_sR, gI_sL, gI_sR, gL_sI, gL_sR, gR_sI, gR_sL, e125_118, e125_137]
            refine ⟨τ1, ?_, ?_⟩
            · rcases j with e | e | e
              · rw [if_pos e]; exact g93
              · rw [if_neg (by omega), if_pos e]; exact g93
              · rw [if_neg (by omega), if_neg (by omega), if_neg (not_not_intro e)]; exact g93
            · by_cases o133 : fOp w = 133
              · rw [if_neg (not_not_intro o133)] at p1
                rw [if_pos o133]
                exact p1
              · rw [if_pos o133] at p1
                rw [if_neg o133, if_pos (by omega)]
                exact p1
          · obtain ⟨τ1, t1, p1⟩ := T120 (w := w) h (by omega)
            have l1 := sidL_l (w := w)
            obtain ⟨τ2, t2, p2⟩ := T126 (w := w) (a := fD w) (b := sidR w) (t := t) (emC_p h p1) (by omega)
            refine ⟨τ2, ?_, by rw [if_neg (by omega), if_neg (by omega)]; exact emP_t p1 p2 K3⟩
            rw [if_neg (by omega), if_neg (by omega), if_pos (by omega), T1]
            simp only [Option.getD_some, Option.bind_some, Option.toList_some, Option.toList_none, List.cons_append, List.nil_append, and_self, and_true, true_and, false_and, and_false, ite_self, not_true_eq_false, not_false_eq_true, reduceIte, Nat.reduceEqDiff, ab_I, ab_L, ab_R, ao_I, ao_L, ao_R, gL_sL, gI_sI, gR_sR, gI_sL, gI_sR, gL_sI, gL_sR, gR_sI, gR_sL]
            rw [e125_128, t1]
            simp only [Option.getD_some, Option.bind_some, Option.toList_some, Option.toList_none, List.cons_append, List.nil_append, and_self, and_true, true_and, false_and, and_false, ite_self, not_true_eq_false, not_false_eq_true, reduceIte, Nat.reduceEqDiff, ab_I, ab_L, ab_R, ao_I, ao_L, ao_R, gL_sL, gI_sI, gR_sR, gI_sL, gI_sR, gL_sI, gL_sR, gR_sI, gR_sL]
            rw [e125_133, t2]
            simp only [Option.getD_some, Option.bind_some, Option.toList_some, Option.toList_none, List.cons_append, List.nil_append, and_self, and_true, true_and, false_and, and_false, ite_self, not_true_eq_false, not_false_eq_true, reduceIte, Nat.reduceEqDiff, ab_I, ab_L, ab_R, ao_I, ao_L, ao_R, gL_sL, gI_sI, gR_sR, gI_sL, gI_sR, gL_sI, gL_sR, gR_sI, gR_sL, e125_137]
      by_cases o133 : fOp w = 133
      · have s0 : ¬ fS w = 0 := fun z => hlp ⟨o133, z⟩
        obtain ⟨τ, g, p⟩ := go
        refine ⟨τ, ?_, p⟩
        rw [if_neg (not_not_intro o133), T2]
        simp only [Option.getD_some, Option.bind_some, Option.toList_some, Option.toList_none, List.cons_append, List.nil_append, and_self, and_true, true_and, false_and, and_false, ite_self, not_true_eq_false, not_false_eq_true, reduceIte, Nat.reduceEqDiff, ab_I, ab_L, ab_R, ao_I, ao_L, ao_R, gL_sL, gI_sI, gR_sR, gI_sL, gI_sR, gL_sI, gL_sR, gR_sI, gR_sL]
        rw [e125_38, if_pos s0]
        exact g
      · rw [if_pos o133]
        exact go
theorem T115 {i n : Nat} (hi : i < 200) (hn : n ≤ 200) (l0 : ¬ fL w = 0) (opl : okPl w) (h : emC σ K N) (hN : N < 1195) : ∃ τ, MM 115 [mR (some 72), mL w, mI (i : Int), mI (n : Int)] σ = some (none, τ) ∧ emP σ τ K N (worQ w (tgC n i w) N) := by
  have K3 := h.2.2.1
  have fr := fld_rng w
  have w7 : iAnd (fOp w) 7 = fL w := m7 w
  unfold okPl at opl
  rw [if_neg l0] at opl
  unfold worQ
  rw [M115, e115_0, T0]
  simp only [Option.getD_some, Option.bind_some, Option.toList_some, Option.toList_none, List.cons_append, List.nil_append, and_self, and_true, true_and, false_and, and_false, ite_self, not_true_eq_false, not_false_eq_true, reduceIte, Nat.reduceEqDiff, ab_I, ab_L, ab_R, ao_I, ao_L, ao_R, gL_sL, gI_sI, gR_sR, gI_sL, gI_sR, gL_sI, gL_sR, gR_sI, gR_sL]
  rw [e115_4, w7]
  by_cases l1 : fL w = 1
  · obtain ⟨τ, t, p⟩ := T117 (w := w) h (by omega)
    refine ⟨τ, ?_, by rw [if_pos l1]; exact p⟩
    rw [if_pos l1, t]
    simp only [Option.getD_some, Option.bind_some, Option.toList_some, Option.toList_none, List.cons_append, List.nil_append, and_self, and_true, true_and, false_and, and_false, ite_self, not_true_eq_false, not_false_eq_true, reduceIte, Nat.reduceEqDiff, ab_I, ab_L, ab_R, ao_I, ao_L, ao_R, gL_sL, gI_sI, gR_sR, gI_sL, gI_sR, gL_sI, gL_sR, gR_sI, gR_sL, e115_49, e115_106]
  · rw [if_neg l1, if_neg l1]
    by_cases l2 : fL w = 2
    · obtain ⟨τ1, t1, p1⟩ := T113 (r := 11) (x := fI w) h (by omega)
      have c1 : emC τ1 K (N + 1) := emC_p h p1
      obtain ⟨τ2, t2, p2⟩ := T116 (o := 19) (w := w) (a := fD w) (b := 11) (Or.inr rfl) c1 (by omega)
      refine ⟨τ2, ?_, by rw [if_pos l2]; exact emP_t p1 p2 K3⟩
      rw [if_pos l2, T4]
      simp only [Option.getD_some, Option.bind_some, Option.toList_some, Option.toList_none, List.cons_append, List.nil_append, and_self, and_true, true_and, false_and, and_false, ite_self, not_true_eq_false, not_false_eq_true, reduceIte, Nat.reduceEqDiff, ab_I, ab_L, ab_R, ao_I, ao_L, ao_R, gL_sL, gI_sI, gR_sR, gI_sL, gI_sR, gL_sI, gL_sR, gR_sI, gR_sL]
      rw [e115_59, t1]
      simp only [Option.getD_some, Option.bind_some, Option.toList_some, Option.toList_none, List.cons_append, List.nil_append, and_self, and_true, true_and, false_and, and_false, ite_self, not_true_eq_false, not_false_eq_true, reduceIte, Nat.reduceEqDiff, ab_I, ab_L, ab_R, ao_I, ao_L, ao_R, gL_sL, gI_sI, gR_sR, gI_sL, gI_sR, gL_sI, gL_sR, gR_sI, gR_sL]
      rw [e115_62, T1]
      simp only [Option.getD_some, Option.bind_some, Option.toList_some, Option.toList_none, List.cons_append, List.nil_append, and_self, and_true, true_and, false_and, and_false, ite_self, not_true_eq_false, not_false_eq_true, reduceIte, Nat.reduceEqDiff, ab_I, ab_L, ab_R, ao_I, ao_L, ao_R, gL_sL, gI_sI, gR_sR, gI_sL, gI_sR, gL_sI, gL_sR, gR_sI, gR_sL]
      rw [e115_70, t2]
      simp only [Option.getD_some, Option.bind_some, Option.toList_some, Option.toList_none, List.cons_append, List.nil_append, and_self, and_true, true_and, false_and, and_false, ite_self, not_true_eq_false, not_false_eq_true, reduceIte, Nat.reduceEqDiff, ab_I, ab_L, ab_R, ao_I, ao_L, ao_R, gL_sL, gI_sI, gR_sR, gI_sL, gI_sR, gL_sI, gL_sR, gR_sI, gR_sL, e115_75, e115_106]
    · rw [if_neg l2, if_neg l2]
      by_cases l3 : fL w = 3
      · have om : okMem w := by
          rw [if_neg (by omega), if_neg (by omega)] at opl
          exact opl
        obtain ⟨τ, t, p⟩ := T118 (w := w) om l3 h (by omega)
        refine ⟨τ, ?_, by rw [if_pos l3]; exact p⟩
        rw [if_pos l3, t]
        simp only [Option.getD_some, Option.bind_some, Option.toList_some, Option.toList_none, List.cons_append, List.nil_append, and_self, and_true, true_and, false_and, and_false, ite_self, not_true_eq_false, not_false_eq_true, reduceIte, Nat.reduceEqDiff, ab_I, ab_L, ab_R, ao_I, ao_L, ao_R, gL_sL, gI_sI, gR_sR, gI_sL, gI_sR, gL_sI, gL_sR, gR_sI, gR_sL, e115_83, e115_106]
      · rw [if_neg l3, if_neg l3]
        by_cases l56 : fL w = 5 ∨ fL w = 6
        · obtain ⟨τ, t, p⟩ := T125 (w := w) (t := tgC n i w) h (by omega)
          refine ⟨τ, ?_, by rw [if_pos l56]; exact p⟩
          have t15 := T15 (σ := σ) (w := w) hi hn
          rcases l56 with l | l
          · rw [if_neg (by omega), if_pos l, t15]
            simp only [Option.getD_some, Option.bind_some, Option.toList_some, Option.toList_none, List.cons_append, List.nil_append, and_self, and_true, true_and, false_and, and_false, ite_self, not_true_eq_false, not_false_eq_true, reduceIte, Nat.reduceEqDiff, ab_I, ab_L, ab_R, ao_I, ao_L, ao_R, gL_sL, gI_sI, gR_sR, gI_sL, gI_sR, gL_sI, gL_sR, gR_sI, gR_sL]
            rw [e115_95, t]
            simp only [Option.getD_some, Option.bind_some, Option.toList_some, Option.toList_none, List.cons_append, List.nil_append, and_self, and_true, true_and, false_and, and_false, ite_self, not_true_eq_false, not_false_eq_true, reduceIte, Nat.reduceEqDiff, ab_I, ab_L, ab_R, ao_I, ao_L, ao_R, gL_sL, gI_sI, gR_sR, gI_sL, gI_sR, gL_sI, gL_sR, gR_sI, gR_sL, e115_98, e115_106]
          · rw [if_neg (by omega), if_neg (by omega), if_pos l, t15]
            simp only [Option.getD_some, Option.bind_some, Option.toList_some, Option.toList_none, List.cons_append, List.nil_append, and_self, and_true, true_and, false_and, and_false, ite_self, not_true_eq_false, not_false_eq_true, reduceIte, Nat.reduceEqDiff, ab_I, ab_L, ab_R, ao_I, ao_L, ao_R, gL_sL, gI_sI, gR_sR, gI_sL, gI_sR, gL_sI, gL_sR, gR_sI, gR_sL]
            rw [e115_95, t]
            simp only [Option.getD_some, Option.bind_some, Option.toList_some, Option.toList_none, List.cons_append, List.nil_append, and_self, and_true, true_and, false_and, and_false, ite_self, not_true_eq_false, not_false_eq_true, reduceIte, Nat.reduceEqDiff, ab_I, ab_L, ab_R, ao_I, ao_L, ao_R, gL_sL, gI_sI, gR_sR, gI_sL, gI_sR, gL_sI, gL_sR, gR_sI, gR_sL, e115_98, e115_106]
        · have l47 : fL w = 4 ∨ fL w = 7 := by
            have : fL w = fOp w % 8 := rfl
            omega
          have oa : okAlu w := by
            rw [if_pos l47] at opl
            exact opl
          obtain ⟨τ, t, p⟩ := T122 (w := w) l47 oa h hN
          refine ⟨τ, ?_, by rw [if_neg l56]; exact p⟩
          rcases l47 with l | l
          · rw [if_pos l, t]
            simp only [Option.getD_some, Option.bind_some, Option.toList_some, Option.toList_none, List.cons_append, List.nil_append, and_self, and_true, true_and, false_and, and_false, ite_self, not_true_eq_false, not_false_eq_true, reduceIte, Nat.reduceEqDiff, ab_I, ab_L, ab_R, ao_I, ao_L, ao_R, gL_sL, gI_sI, gR_sR, gI_sL, gI_sR, gL_sI, gL_sR, gR_sI, gR_sL, e115_106]
          · rw [if_neg (by omega), if_neg (by omega), if_neg (by omega), t]
            simp only [Option.getD_some, Option.bind_some, Option.toList_some, Option.toList_none, List.cons_append, List.nil_append, and_self, and_true, true_and, false_and, and_false, ite_self, not_true_eq_false, not_false_eq_true, reduceIte, Nat.reduceEqDiff, ab_I, ab_L, ab_R, ao_I, ao_L, ao_R, gL_sL, gI_sI, gR_sR, gI_sL, gI_sR, gL_sI, gL_sR, gR_sI, gR_sL, e115_106]
end CEMW
