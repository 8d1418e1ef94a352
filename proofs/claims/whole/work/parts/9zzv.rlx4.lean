/-! ===== the reference's signs; advance ===== -/
section RAD
variable {t : Nat → Int} {n i j k : Nat} {σ τ ρ υ : MS} {c d e o : Int} {v : B64} {q : B64 × Int}
theorem ch2 {α : Type} {A B : α} : (if c = 61 then A else if c = 33 then A else if c = 43 then A else if c = 45 then A else if c = 42 then A else if c = 47 then A else if c = 37 then A else if c = 38 then A else if c = 124 then A else if c = 94 then A else if c = 60 then A else if ¬ c = 62 then B else A) = if sg2 c then A else B := by
  by_cases h0 : c = 61
  · rw [if_pos h0, if_pos (show sg2 c by unfold sg2; omega)]
  · rw [if_neg h0]
    by_cases h1 : c = 33
    · rw [if_pos h1, if_pos (show sg2 c by unfold sg2; omega)]
    · rw [if_neg h1]
      by_cases h2 : c = 43
      · rw [if_pos h2, if_pos (show sg2 c by unfold sg2; omega)]
      · rw [if_neg h2]
        by_cases h3 : c = 45
        · rw [if_pos h3, if_pos (show sg2 c by unfold sg2; omega)]
        · rw [if_neg h3]
          by_cases h4 : c = 42
          · rw [if_pos h4, if_pos (show sg2 c by unfold sg2; omega)]
          · rw [if_neg h4]
            by_cases h5 : c = 47
            · rw [if_pos h5, if_pos (show sg2 c by unfold sg2; omega)]
            · rw [if_neg h5]
              by_cases h6 : c = 37
              · rw [if_pos h6, if_pos (show sg2 c by unfold sg2; omega)]
              · rw [if_neg h6]
                by_cases h7 : c = 38
                · rw [if_pos h7, if_pos (show sg2 c by unfold sg2; omega)]
                · rw [if_neg h7]
                  by_cases h8 : c = 124
                  · rw [if_pos h8, if_pos (show sg2 c by unfold sg2; omega)]
                  · rw [if_neg h8]
                    by_cases h9 : c = 94
                    · rw [if_pos h9, if_pos (show sg2 c by unfold sg2; omega)]
                    · rw [if_neg h9]
                      by_cases h10 : c = 60
                      · rw [if_pos h10, if_pos (show sg2 c by unfold sg2; omega)]
                      · rw [if_neg h10]
                        by_cases hl : c = 62
                        · rw [if_neg (fun z => z hl), if_pos (show sg2 c by unfold sg2; omega)]
                        · rw [if_pos hl, if_neg (show ¬ sg2 c by unfold sg2; omega)]
theorem ch1 {α : Type} {A B : α} : (if c = 40 then A else if c = 41 then A else if c = 58 then A else if c = 44 then A else if c = 61 then A else if c = 43 then A else if c = 45 then A else if c = 42 then A else if c = 47 then A else if c = 37 then A else if c = 38 then A else if c = 124 then A else if c = 94 then A else if c = 60 then A else if ¬ c = 62 then B else A) = if sg1 c then A else B := by
  by_cases h0 : c = 40
  · rw [if_pos h0, if_pos (show sg1 c by unfold sg1; omega)]
  · rw [if_neg h0]
    by_cases h1 : c = 41
    · rw [if_pos h1, if_pos (show sg1 c by unfold sg1; omega)]
    · rw [if_neg h1]
      by_cases h2 : c = 58
      · rw [if_pos h2, if_pos (show sg1 c by unfold sg1; omega)]
      · rw [if_neg h2]
        by_cases h3 : c = 44
        · rw [if_pos h3, if_pos (show sg1 c by unfold sg1; omega)]
        · rw [if_neg h3]
          by_cases h4 : c = 61
          · rw [if_pos h4, if_pos (show sg1 c by unfold sg1; omega)]
          · rw [if_neg h4]
            by_cases h5 : c = 43
            · rw [if_pos h5, if_pos (show sg1 c by unfold sg1; omega)]
            · rw [if_neg h5]
              by_cases h6 : c = 45
              · rw [if_pos h6, if_pos (show sg1 c by unfold sg1; omega)]
              · rw [if_neg h6]
                by_cases h7 : c = 42
                · rw [if_pos h7, if_pos (show sg1 c by unfold sg1; omega)]
                · rw [if_neg h7]
                  by_cases h8 : c = 47
                  · rw [if_pos h8, if_pos (show sg1 c by unfold sg1; omega)]
                  · rw [if_neg h8]
                    by_cases h9 : c = 37
                    · rw [if_pos h9, if_pos (show sg1 c by unfold sg1; omega)]
                    · rw [if_neg h9]
                      by_cases h10 : c = 38
                      · rw [if_pos h10, if_pos (show sg1 c by unfold sg1; omega)]
                      · rw [if_neg h10]
                        by_cases h11 : c = 124
                        · rw [if_pos h11, if_pos (show sg1 c by unfold sg1; omega)]
                        · rw [if_neg h11]
                          by_cases h12 : c = 94
                          · rw [if_pos h12, if_pos (show sg1 c by unfold sg1; omega)]
                          · rw [if_neg h12]
                            by_cases h13 : c = 60
                            · rw [if_pos h13, if_pos (show sg1 c by unfold sg1; omega)]
                            · rw [if_neg h13]
                              by_cases hl : c = 62
                              · rw [if_neg (fun z => z hl), if_pos (show sg1 c by unfold sg1; omega)]
                              · rw [if_pos hl, if_neg (show ¬ sg1 c by unfold sg1; omega)]
/-- what a sign's reading leaves -/
def sgP (σ : MS) (S : TK) (τ : MS) : Prop := rqL τ σ ∧ gI τ 80 10 = gI σ 80 10 ∧ gI τ 80 9 = tK S ∧ (tK S = 4 → gI τ 80 11 = tkS S ∧ gI τ 80 8 = (tE S : Int))
theorem T357 (h : rTx σ t n) (h8 : gI σ 80 8 = (i : Int)) (hi : i ≤ n) : okc (MM 357 [mR (some 80), mI c] σ) none (sgP σ (sgT c (pk t n (i + 1)) (pk t n (i + 2)) i)) := by
  have n4 := h.2.1
  generalize hd : pk t n (i + 1) = d
  generalize he : pk t n (i + 2) = e
  have fin : ∀ (s x : Int) (m : Nat), okc (some (none, sI (sI (sI σ 80 9 4) 80 11 s) 80 8 x)) none (fun τ => rqL τ σ ∧ gI τ 80 10 = gI σ 80 10 ∧ gI τ 80 9 = 4 ∧ gI τ 80 11 = s ∧ gI τ 80 8 = x) := fun s x m => okc_s ⟨rqL_t (rqL_I ⟨by omega, by omega⟩) (rqL_t (rqL_I ⟨by omega, by omega⟩) (rqL_I ⟨by omega, by omega⟩)), by rw [gI_sI, if_neg (by decide), gI_sI, if_neg (by decide), gI_sI, if_neg (by decide)], by rw [gI_sI, if_neg (by decide), gI_sI, if_neg (by decide), gI_sI, if_pos ⟨rfl, rfl⟩], by rw [gI_sI, if_neg (by decide), gI_sI, if_pos ⟨rfl, rfl⟩], at8⟩
  have g8 : ∀ s : Int, gI (sI (sI σ 80 9 4) 80 11 s) 80 8 = (i : Int) := fun s => by
    rw [gI_sI, if_neg (by decide), gI_sI, if_neg (by decide)]
    exact h8
  have s169 : RR (lkB tb357) (B357_169, [some (mR (some 80)), some (mI c), some (mI d), some (mI e)], [], sI σ 80 9 4) = if sg1 c then some (none, sI (sI (sI σ 80 9 4) 80 11 c) 80 8 ((i + 1 : Nat) : Int)) else some (none, sI (sI σ 80 9 4) 80 9 5) := by
    rw [e357_169, ch1, e357_259, g8, w32_s1 (by omega)]
  have s68 : RR (lkB tb357) (B357_68, [some (mR (some 80)), some (mI c), some (mI d), some (mI e)], [], sI σ 80 9 4) = if d = 61 ∧ sg2 c then some (none, sI (sI (sI σ 80 9 4) 80 11 (iOr (iShl c 8) d)) 80 8 ((i + 2 : Nat) : Int)) else if sg1 c then some (none, sI (sI (sI σ 80 9 4) 80 11 c) 80 8 ((i + 1 : Nat) : Int)) else some (none, sI (sI σ 80 9 4) 80 9 5) := by
    rw [e357_68, ch2, s169, e357_146, g8, show w32 ((i : Int) + 2) = ((i + 2 : Nat) : Int) from w32_a (b := 2) (by omega)]
    by_cases c1 : d = 61
    · rw [if_neg (fun z => z c1)]
      by_cases c2 : sg2 c
      · rw [if_pos c2, if_pos ⟨c1, c2⟩]
      · rw [if_neg c2, if_neg (fun z : d = 61 ∧ sg2 c => c2 z.2)]
    · rw [if_pos c1, if_neg (fun z : d = 61 ∧ sg2 c => c1 z.1)]
  have tail : ¬ ((c = 60 ∨ c = 62) ∧ d = c ∧ e = 61) → okc (RR (lkB tb357) (B357_68, [some (mR (some 80)), some (mI c), some (mI d), some (mI e)], [], sI σ 80 9 4)) none (sgP σ (sgT c d e i)) := fun nt => by
    rw [s68]
    unfold sgT
    rw [if_neg nt]
    by_cases c2 : d = 61 ∧ sg2 c
    · rw [if_pos c2, if_pos c2]
      have ev : iOr (iShl c 8) d = c * 256 + d := by
        obtain ⟨r1, r2⟩ := c2
        rcases r2 with r2 | r2 | r2 | r2 | r2 | r2 | r2 | r2 | r2 | r2 | r2 | r2 <;> rw [r2, r1] <;> decide
      rw [ev]
      exact okc_m (fin _ _ 0) fun τ p => ⟨p.1, p.2.1, p.2.2.1, fun _ => p.2.2.2⟩
    · rw [if_neg c2, if_neg c2]
      by_cases c3 : sg1 c
      · rw [if_pos c3, if_pos c3]
        exact okc_m (fin _ _ 0) fun τ p => ⟨p.1, p.2.1, p.2.2.1, fun _ => p.2.2.2⟩
      · rw [if_neg c3, if_neg c3]
        exact okc_s ⟨rqL_t (rqL_I ⟨by omega, by omega⟩) (rqL_I ⟨by omega, by omega⟩), by rw [gI_sI, if_neg (by decide), gI_sI, if_neg (by decide)], by rw [gI_sI, if_pos ⟨rfl, rfl⟩], (fun z => by cases z)⟩
  have s29 : (c = 60 ∨ c = 62) → okc (RR (lkB tb357) (B357_29, [some (mR (some 80)), some (mI c), some (mI d), some (mI e)], [], sI σ 80 9 4)) none (sgP σ (sgT c d e i)) := fun cc => by
    rw [e357_29]
    by_cases c1 : d = c
    · rw [if_neg (fun z => z c1)]
      by_cases c2 : e = 61
      · rw [if_neg (fun z => z c2), g8, show w32 ((i : Int) + 3) = ((i + 3 : Nat) : Int) from w32_a (b := 3) (by omega)]
        have ev : iOr (iOr (iShl c 16) (iShl d 8)) e = c * 65536 + d * 256 + e := by
          rcases cc with cc | cc <;> rw [c1, cc, c2] <;> decide
        rw [ev]
        unfold sgT
        rw [if_pos ⟨cc, c1, c2⟩]
        exact okc_m (fin _ _ 0) fun τ p => ⟨p.1, p.2.1, p.2.2.1, fun _ => p.2.2.2⟩
      · rw [if_pos c2]
        exact tail (fun z => c2 z.2.2)
    · rw [if_pos c1]
      exact tail (fun z => c1 z.2.1)
  rw [M357, e357_0, P1 h h8 hi, hd]
  simp only [Option.bind_some, Option.toList_some, List.cons_append, List.nil_append]
  rw [e357_5, P2 h h8 hi, he]
  simp only [Option.bind_some, Option.toList_some, List.cons_append, List.nil_append]
  rw [e357_11]
  by_cases c1 : c = 60
  · rw [if_pos c1]
    exact s29 (Or.inl c1)
  · rw [if_neg c1]
    by_cases c2 : c = 62
    · rw [if_neg (fun z => z c2)]
      exact s29 (Or.inr c2)
    · rw [if_pos c2]
      exact tail (fun z => z.1.elim c1 c2)
/-- the next token -/
theorem T355 (h : rTx σ t n) (h8 : gI σ 80 8 = (i : Int)) (hi : i ≤ n) : okc (MM 355 [mR (some 80)] σ) none (fun τ => rqL τ σ ∧ tkR τ (tok t n (beg t n i))) := by
  have n4 := h.2.1
  rw [M355, L355c h h8 hi, e355_75, at8]
  have jl := (beg_le (t := t) hi).2
  generalize beg t n i = j at *
  obtain ⟨ρ, hρ⟩ : ∃ ρ, ρ = sI (sI σ 80 8 (j : Int)) 80 10 (j : Int) := ⟨_, rfl⟩
  have fr : rqL ρ σ := by rw [hρ]; exact rqL_t (rqL_I ⟨by omega, by omega⟩) (rqL_I ⟨by omega, by omega⟩)
  have r := rTx_q h fr
  have r8 : gI ρ 80 8 = (j : Int) := by rw [hρ, gI_sI, if_neg (by decide)]; exact at8
  have r10 : gI ρ 80 10 = (j : Int) := by rw [hρ, gI_sI, if_pos ⟨rfl, rfl⟩]
  rw [← hρ, P0 r r8 jl]
  simp only [Option.bind_some, Option.toList_some, List.cons_append, List.nil_append]
  rw [e355_88]
  unfold tok
  by_cases c0 : pk t n j = -1
  · rw [if_neg (fun z => z c0), if_pos c0, e355_192]
    refine okc_s ⟨rqL_t (rqL_I ⟨by omega, by omega⟩) fr, ?_, ?_, fun _ => ?_, (fun z => by cases z), (fun z => by cases z)⟩
    · rw [gI_sI, if_pos ⟨rfl, rfl⟩]
    · rw [gI_sI, if_neg (by decide)]; exact r10
    · rw [gI_sI, if_neg (by decide)]; exact r8
  · have jn : j < n := by
      refine Classical.byContradiction fun z => c0 (pk_0 (by omega))
    rw [if_pos c0, if_neg c0]
    by_cases c1 : pk t n j = 10
    · rw [if_neg (fun z => z c1), if_pos c1, e355_192]
      have w : w32 (gI (sI ρ 80 9 1) 80 8 + 1) = ((j + 1 : Nat) : Int) := by
        rw [gI_sI, if_neg (by decide), r8]
        exact w32_s1 (by omega)
      rw [w]
      refine okc_s ⟨rqL_t (rqL_I ⟨by omega, by omega⟩) (rqL_t (rqL_I ⟨by omega, by omega⟩) fr), ?_, ?_, fun _ => ?_, (fun z => by cases z), (fun z => by cases z)⟩
      · rw [gI_sI, if_neg (by decide), gI_sI, if_pos ⟨rfl, rfl⟩]
      · rw [gI_sI, if_neg (by decide), gI_sI, if_neg (by decide)]; exact r10
      · exact at8
    · rw [if_pos c1, if_neg c1, T353]
      simp only [Option.bind_some, Option.toList_some, List.cons_append, List.nil_append]
      rw [e355_130]
      by_cases c2 : isLt (pk t n j)
      · have r2 : gI (sI ρ 80 9 2) 80 8 = (j : Int) := by rw [gI_sI, if_neg (by decide)]; exact r8
        have l := L355d (x1 := pk t n j) (rTx_q r (rqL_I (s := 9) (x := 2) ⟨by omega, by omega⟩)) (n - j) j (Nat.le_refl _) jl
        rw [sI8_same r2] at l
        rw [b2_yes c2, if_neg (by decide), if_pos c2, l]
        refine okc_s ⟨rqL_t (rqL_I ⟨by omega, by omega⟩) (rqL_t (rqL_I ⟨by omega, by omega⟩) fr), ?_, ?_, fun _ => ?_, (fun z => by cases z), (fun z => by cases z)⟩
        · rw [gI_sI, if_neg (by decide), gI_sI, if_pos ⟨rfl, rfl⟩]
        · rw [gI_sI, if_neg (by decide), gI_sI, if_neg (by decide)]; exact r10
        · exact at8
      · rw [b2_no c2, if_pos rfl, if_neg c2, T352]
        simp only [Option.bind_some, Option.toList_some, List.cons_append, List.nil_append]
        rw [e355_177]
        by_cases c3 : isDg (pk t n j)
        · rw [b2_yes c3, if_neg (by decide), if_pos c3]
          refine okc_b (T356 r r8 jl) fun τ p => ?_
          show okc (RR (lkB tb355) (B355_184, [some (mR (some 80)), some (mI (pk t n j))], [], τ)) none _
          rw [e355_184, e355_192]
          exact okc_s ⟨rqL_t p.1 fr, p.2.1, p.2.2.1.trans r10, fun _ => p.2.2.2.1, fun _ => p.2.2.2.2, (fun z => by cases z)⟩
        · rw [b2_no c3, if_pos rfl, if_neg c3]
          refine okc_b (T357 r r8 jl) fun τ p => ?_
          show okc (RR (lkB tb355) (B355_192, [some (mR (some 80)), some (mI (pk t n j))], [], τ)) none _
          rw [e355_192]
          have kb : tB (sgT (pk t n j) (pk t n (j + 1)) (pk t n (j + 2)) j) = j := by
            unfold sgT
            repeat' split
            all_goals rfl
          have kk := sgT_k (c := pk t n j) (d := pk t n (j + 1)) (e := pk t n (j + 2)) (j := j)
          refine okc_s ⟨rqL_t p.1 fr, p.2.2.1, ?_, fun z => ?_, fun z => ?_, fun z => (p.2.2.2 z).1⟩
          · rw [kb]; exact p.2.1.trans r10
          · rcases kk with q | q
            · exact (p.2.2.2 q).2
            · exact absurd q z
          · rcases kk with q | q <;> rw [q] at z <;> cases z
end RAD
