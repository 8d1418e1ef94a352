/-! ===== the reference's registers; numbers and sides ===== -/
section RRE
variable {t : Nat → Int} {n i j k m : Nat} {σ τ ρ υ : MS} {c d e o : Int} {v : B64} {q : B64 × Int} {T : TK}
theorem tks_lt (h : ¬ tK (tks t n k) = 0) : tB (tks t n k) < tE (tks t n k) ∧ tE (tks t n k) ≤ n := by
  obtain ⟨j, hj, e⟩ := tks_t (t := t) (n := n) k
  rw [e] at h ⊢
  rw [tok_b]
  by_cases c : j < n
  · exact tok_e c
  · rw [tok_end (by omega)] at h
    exact absurd rfl h
theorem g81' (h : m < 4000) : (Option.isSome (some 81) = true ∧ ab σ 1 81 (m : Int)) := by rw [g_81]; omega
theorem T364 (h : RG σ t n k) : MM 364 [mR (some 80)] σ = some (some (mI (rgR t (tks t n k))), σ) := by
  have n4 := h.1.2.1
  obtain ⟨T, hT⟩ : ∃ T, T = tks t n k := ⟨_, rfl⟩
  have g9 : gI σ 80 9 = tK T := by rw [hT]; exact RG_9 h
  have g10 : gI σ 80 10 = (tB T : Int) := by rw [hT]; exact RG_10 h
  have gt : ∀ j, gI σ 81 j = t j := h.1.2.2.1
  have gb : ∀ j, -128 ≤ t j ∧ t j < 128 := h.1.2.2.2
  have lt := tks_lt (t := t) (n := n) (k := k)
  have g8 := RG_8 h
  rw [← hT] at lt g8 ⊢
  clear hT h
  rw [M364, e364_0, g9]
  unfold rgR
  by_cases c2 : tK T = 2
  · have lt := lt (by rw [c2]; decide)
    have g8 := g8 (by rw [c2]; decide)
    generalize tB T = a at *
    generalize tE T = b at *
    rw [if_neg (fun z => z c2), if_neg (fun z => z c2), g8, g10, M363, e363_0, w32_sub (show a ≤ b by omega) (by omega), if_pos (g81' (by omega)), Int.toNat_natCast, gt, iAnd255]
    have b0 := gb a
    have b1 := gb (a + 1)
    have b2' := gb (a + 2)
    by_cases l2 : b - a < 2
    · rw [if_pos (by omega), if_pos (Or.inl l2)]
      simp only [Option.bind_some, Option.toList_some, Option.toList_none, List.cons_append, List.nil_append]
      rw [e364_20]
    · rw [if_neg (by omega)]
      by_cases l3 : 3 < b - a
      · rw [if_pos (by omega), if_pos (Or.inr l3)]
        simp only [Option.bind_some, Option.toList_some, Option.toList_none, List.cons_append, List.nil_append]
        rw [e364_20]
      · rw [if_neg (by omega), if_neg (show ¬ (b - a < 2 ∨ 3 < b - a) by omega)]
        have l0 : a + 3 < 5000 := by omega
        have m1 : a + 1 < 4000 := by omega
        have main : ∀ C : Int, C = t a % 256 → (t a = 114 ∨ t a = 119) → ((RR (lkB tb363) (B363_42, [some (mR (some 80)), some (mI (a : Int)), some (mI (b : Int)), some (mI ((b - a : Nat) : Int)), some (mI C), none], [], σ)).bind fun q => RR (lkB tb364) (B364_20, [some (mR (some 80))], q.1.toList ++ [], q.2)) = some (some (mI (if b - a = 2 then (if isDg (t (a + 1)) then (if t a = 119 then 16 + (t (a + 1) - 48) else t (a + 1) - 48) else -1) else if t (a + 1) = 49 ∧ t (a + 2) = 48 then (if t a = 119 then 26 else 10) else -1)), σ) := fun C hC hrw => by
          have s116 : ∀ y : Int, 0 ≤ y → y ≤ 10 → ((RR (lkB tb363) (B363_116, [some (mR (some 80)), some (mI (a : Int)), some (mI (b : Int)), some (mI ((b - a : Nat) : Int)), some (mI C), none], [mI y], σ)).bind fun q => RR (lkB tb364) (B364_20, [some (mR (some 80))], q.1.toList ++ [], q.2)) = some (some (mI (if t a = 119 then 16 + y else y)), σ) := fun y y0 y1 => by
            rw [e363_116, if_pos y0]
            by_cases c9 : t a = 119
            · have cc : C = 119 := by omega
              rw [if_neg (fun z => z cc), if_pos c9, w32_i (by omega) (by omega)]
              simp only [Option.bind_some, Option.toList_some, Option.toList_none, List.cons_append, List.nil_append]
              rw [e364_20]
            · have cc : ¬ C = 119 := by omega
              rw [if_pos cc, if_neg c9]
              simp only [Option.bind_some, Option.toList_some, Option.toList_none, List.cons_append, List.nil_append]
              rw [e364_20]
          have s115 : ((RR (lkB tb363) (B363_115, [some (mR (some 80)), some (mI (a : Int)), some (mI (b : Int)), some (mI ((b - a : Nat) : Int)), some (mI C), none], [], σ)).bind fun q => RR (lkB tb364) (B364_20, [some (mR (some 80))], q.1.toList ++ [], q.2)) = some (some (mI (-1)), σ) := by
            rw [e363_115, e363_116, if_neg (by decide)]
            simp only [Option.bind_some, Option.toList_some, Option.toList_none, List.cons_append, List.nil_append]
            rw [e364_20]
          rw [e363_42]
          by_cases e2 : b - a = 2
          · have e2' : (((b - a : Nat) : Int) = 2) := by omega
            rw [if_neg (fun z => z e2'), w32_s1 (show a < 100000 by omega), if_pos (g81' m1), Int.toNat_natCast, gt, iAnd255, T352]
            rw [Option.bind_some]
            show ((RR (lkB tb363) (B363_62, [some (mR (some 80)), some (mI (a : Int)), some (mI (b : Int)), some (mI ((b - a : Nat) : Int)), some (mI C), none], [mI (b2 (isDg (t (a + 1) % 256)))], σ)).bind fun q => RR (lkB tb364) (B364_20, [some (mR (some 80))], q.1.toList ++ [], q.2)) = _
            rw [e363_62, w32_s1 (show a < 100000 by omega), Int.toNat_natCast, gt]
            rw [if_pos e2]
            by_cases d : isDg (t (a + 1))
            · have d' : isDg (t (a + 1) % 256) := by rw [show t (a + 1) % 256 = t (a + 1) by have := d.1; omega]; exact d
              rw [b2_yes d', if_neg (by decide), if_pos (g81' m1), if_pos d, w32_i (by omega) (by omega)]
              exact s116 _ (by have := d.1; omega) (by have := d.2; omega)
            · have d' : ¬ isDg (t (a + 1) % 256) := fun z => d ⟨by have := z.1; have := z.2; omega, by have := z.1; have := z.2; omega⟩
              rw [b2_no d', if_pos rfl, if_neg d, e363_79, if_pos (by omega)]
              exact s115
          · have e2' : ¬ (((b - a : Nat) : Int) = 2) := by omega
            have m2 : a + 2 < 4000 := by omega
            rw [if_pos e2', e363_79, if_neg (show ¬ ¬ ((b - a : Nat) : Int) = 3 by omega), w32_s1 (show a < 100000 by omega), show w32 ((a : Int) + 2) = ((a + 2 : Nat) : Int) from w32_a (a := a) (b := 2) (by omega), Int.toNat_natCast, Int.toNat_natCast, gt, gt, if_pos (g81' m1), if_neg e2]
            by_cases d1 : t (a + 1) = 49
            · rw [if_neg (fun z => z d1), if_pos (g81' m2)]
              by_cases d2 : t (a + 2) = 48
              · rw [if_neg (fun z => z d2), if_pos ⟨d1, d2⟩]
                have := s116 10 (by decide) (by decide)
                rw [this]
                by_cases c9 : t a = 119
                · rw [if_pos c9, if_pos c9]
                  rfl
                · rw [if_neg c9, if_neg c9]
              · rw [if_pos d2, if_neg (fun z => d2 z.2)]
                exact s115
            · rw [if_pos d1, if_neg (fun z => d1 z.1)]
              exact s115
        by_cases a1 : t a = 114
        · have a1' : t a % 256 = 114 := by omega
          rw [if_pos a1', if_neg (fun z => z (Or.inl a1))]
          exact main _ rfl (Or.inl a1)
        · rw [if_neg (show ¬ t a % 256 = 114 by omega)]
          by_cases a2 : t a = 119
          · rw [if_pos (show t a % 256 = 119 by omega), if_neg (fun z => z (Or.inr a2))]
            exact main _ rfl (Or.inr a2)
          · rw [if_neg (show ¬ t a % 256 = 119 by omega), if_pos (show ¬ (t a = 114 ∨ t a = 119) by omega)]
            simp only [Option.bind_some, Option.toList_some, Option.toList_none, List.cons_append, List.nil_append]
            rw [e364_20]
  · rw [if_pos c2, if_pos c2]
end RRE
