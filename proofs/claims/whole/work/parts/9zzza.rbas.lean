/-! ===== the reference's reader: askings, wants ===== -/
/-- the reference stands at token k, nothing is wrong -/
def RG (σ : MS) (t : Nat → Int) (n k : Nat) : Prop := rTx σ t n ∧ tkR σ (tks t n k) ∧ gI σ 80 14 = -1
/-- what wants may touch -/
def rqW (τ σ : MS) : Prop := (∀ k s, ¬ (k = 80 ∧ 8 ≤ s ∧ s ≤ 14) → gI τ k s = gI σ k s) ∧ (∀ k s, ¬ (k = 80 ∧ s = 12) → gL τ k s = gL σ k s) ∧ τ.2.2 = σ.2.2
/-- something is wrong there -/
def rqE (τ σ : MS) (e : Int) : Prop := rqW τ σ ∧ gI τ 80 14 = e
section RBA
variable {t : Nat → Int} {n i j k m : Nat} {σ τ ρ υ : MS} {c d e o : Int} {v : B64} {q : B64 × Int} {T : TK}
theorem rqW_r (σ : MS) : rqW σ σ := ⟨fun _ _ _ => rfl, fun _ _ _ => rfl, rfl⟩
theorem rqW_t (h1 : rqW υ τ) (h2 : rqW τ σ) : rqW υ σ := ⟨fun k s q => (h1.1 k s q).trans (h2.1 k s q), fun k s q => (h1.2.1 k s q).trans (h2.2.1 k s q), h1.2.2.trans h2.2.2⟩
theorem rqW_L (h : rqL τ σ) : rqW τ σ := ⟨fun k s q => h.1 k s (by omega), h.2.1, h.2.2⟩
theorem rqW_14 {x : Int} : rqW (sI σ 80 14 x) σ := by
  refine ⟨fun k' s' q => ?_, fun _ _ _ => rfl, rfl⟩
  rw [gI_sI, if_neg (by omega)]
theorem rTx_W (h : rTx σ t n) (q : rqW τ σ) : rTx τ t n := ⟨(q.1 _ _ (by omega)).trans h.1, h.2.1, fun j => (q.1 _ _ (by omega)).trans (h.2.2.1 j), h.2.2.2⟩
theorem RG_8 (h : RG σ t n k) (h5 : ¬ tK (tks t n k) = 5) : gI σ 80 8 = (tE (tks t n k) : Int) := h.2.1.2.2.1 h5
theorem RG_9 (h : RG σ t n k) : gI σ 80 9 = tK (tks t n k) := h.2.1.1
theorem RG_10 (h : RG σ t n k) : gI σ 80 10 = (tB (tks t n k) : Int) := h.2.1.2.1
theorem RG_12 (h : RG σ t n k) (h3 : tK (tks t n k) = 3) : gL σ 80 12 = tV (tks t n k) := (h.2.1.2.2.2.1 h3).1
theorem RG_13 (h : RG σ t n k) (h3 : tK (tks t n k) = 3) : gI σ 80 13 = tkS (tks t n k) := (h.2.1.2.2.2.1 h3).2
theorem RG_11 (h : RG σ t n k) (h4 : tK (tks t n k) = 4) : gI σ 80 11 = tkS (tks t n k) := h.2.1.2.2.2.2 h4
/-- what isn't the token's -/
theorem RG_q (h : RG σ t n k) (q : ∀ s, s ≤ 14 → gI τ 80 s = gI σ 80 s) (q2 : gL τ 80 12 = gL σ 80 12) (q3 : ∀ s, gI τ 81 s = gI σ 81 s) : RG τ t n k := by
  obtain ⟨⟨a1, a2, a3, a4⟩, ⟨b1, b2, b3, b4, b5⟩, c1⟩ := h
  refine ⟨⟨(q _ (by omega)).trans a1, a2, fun j => (q3 j).trans (a3 j), a4⟩, ⟨(q _ (by omega)).trans b1, (q _ (by omega)).trans b2, fun z => (q _ (by omega)).trans (b3 z), fun z => ⟨q2.trans (b4 z).1, (q _ (by omega)).trans (b4 z).2⟩, fun z => (q _ (by omega)).trans (b5 z)⟩, (q _ (by omega)).trans c1⟩
theorem RG_I {s : Nat} {x : Int} (h : RG σ t n k) (hs : 15 ≤ s) : RG (sI σ 80 s x) t n k := RG_q h (fun s' z => by rw [gI_sI, if_neg (by omega)]) rfl (fun s' => by rw [gI_sI, if_neg (by omega)])
theorem RG_Lx {s : Nat} {x : B64} (h : RG σ t n k) (hs : ¬ s = 12) : RG (sL σ 80 s x) t n k := RG_q h (fun s' z => rfl) (by rw [gL_sL, if_neg (by omega)]) (fun s' => rfl)
/-- on to the next token -/
theorem A355 (h : RG σ t n k) (h5 : ¬ tK (tks t n k) = 5) : okc (MM 355 [mR (some 80)] σ) none (fun τ => rqW τ σ ∧ RG τ t n (k + 1)) := by
  refine okc_m (T355 h.1 (RG_8 h h5) (tks_le k).2) fun τ p => ⟨rqW_L p.1, rTx_q h.1 p.1, p.2, (p.1.1 _ _ (by omega)).trans h.2.2⟩
theorem T358g (h : gI σ 80 14 = -1) : MM 358 [mR (some 80)] σ = some (some (mI 1), σ) := by
  rw [M358, e358_0, h, if_neg (by decide)]
theorem T358b (h : 0 ≤ gI σ 80 14) : MM 358 [mR (some 80)] σ = some (some (mI 0), σ) := by
  rw [M358, e358_0, if_pos h]
theorem sI14_same {σ : MS} : sI σ 80 14 (gI σ 80 14) = σ := by
  show (u2 σ.1 80 14 (σ.1 80 14), σ.2) = σ
  have : u2 σ.1 80 14 (σ.1 80 14) = σ.1 := by
    funext k s
    show (if k = 80 ∧ s = 14 then σ.1 80 14 else σ.1 k s) = σ.1 k s
    split
    · rename_i q
      rw [q.1, q.2]
    · rfl
  rw [this]
theorem T359g (h : gI σ 80 14 = -1) : MM 359 [mR (some 80), mI c] σ = some (none, sI σ 80 14 c) := by
  rw [M359, e359_0, h, if_neg (by decide)]
theorem T359b (h : 0 ≤ gI σ 80 14) : MM 359 [mR (some 80), mI c] σ = some (none, σ) := by
  rw [M359, e359_0, if_pos h, sI14_same]
theorem T373b (h : 0 ≤ gI σ 80 14) : MM 373 [mR (some 80)] σ = some (none, σ) := by
  rw [M373, e373_0, T358b h]
  simp only [Option.bind_some, Option.toList_some, Option.toList_none, List.cons_append, List.nil_append]
  rw [e373_4, if_pos rfl, e373_11]
theorem T361b (h : 0 ≤ gI σ 80 14) : MM 361 [mR (some 80), mI c] σ = some (none, σ) := by
  rw [M361, e361_0, T358b h]
  simp only [Option.bind_some, Option.toList_some, Option.toList_none, List.cons_append, List.nil_append]
  rw [e361_4, if_pos rfl, e361_23, T358b h]
  simp only [Option.bind_some, Option.toList_some, Option.toList_none, List.cons_append, List.nil_append]
  rw [e361_27, if_pos rfl, e361_34]
theorem T372b (h : 0 ≤ gI σ 80 14) : MM 372 [mR (some 80)] σ = some (none, σ) := by
  rw [M372, e372_0, T358b h]
  simp only [Option.bind_some, Option.toList_some, Option.toList_none, List.cons_append, List.nil_append]
  rw [e372_4, if_pos rfl, e372_30]
theorem T375b (h : 0 ≤ gI σ 80 14) : MM 375 [mR (some 80), mI c, mI d] σ = some (none, σ) := by
  rw [M375, e375_0, T358b h]
  simp only [Option.bind_some, Option.toList_some, Option.toList_none, List.cons_append, List.nil_append]
  rw [e375_4, if_pos rfl, e375_15, T358b h]
  simp only [Option.bind_some, Option.toList_some, Option.toList_none, List.cons_append, List.nil_append]
  rw [e375_20, if_pos rfl, e375_54]
/-- the token is this sign -/
theorem T360 (h : RG σ t n k) : MM 360 [mR (some 80), mI c] σ = some (some (mI (b2 (sgn (tks t n) c k))), σ) := by
  rw [M360, e360_0, RG_9 h, e360_20]
  by_cases c4 : tK (tks t n k) = 4
  · rw [if_neg (fun z => z c4), RG_11 h c4]
    by_cases c1 : tkS (tks t n k) = c
    · rw [if_neg (fun z => z c1), b2_yes ⟨c4, c1⟩]
    · rw [if_pos c1, b2_no (fun z => c1 z.2)]
  · rw [if_pos c4, b2_no (fun z => c4 z.1)]
theorem T373g (h : RG σ t n k) (h5 : ¬ tK (tks t n k) = 5) : okc (MM 373 [mR (some 80)] σ) none (fun τ => rqW τ σ ∧ RG τ t n (k + 1)) := by
  rw [M373, e373_0, T358g h.2.2]
  simp only [Option.bind_some, Option.toList_some, Option.toList_none, List.cons_append, List.nil_append]
  rw [e373_4, if_neg (by decide)]
  refine okc_b (A355 h h5) fun τ p => ?_
  show okc (RR (lkB tb373) (B373_11, [some (mR (some 80))], [], τ)) none _
  rw [e373_11]
  exact okc_s p
/-- a mistake at the token at hand -/
theorem mis (h : RG σ t n k) : rqE (sI σ 80 14 (tB (tks t n k) : Int)) σ (tB (tks t n k) : Int) := ⟨rqW_14, by rw [gI_sI, if_pos ⟨rfl, rfl⟩]⟩
theorem rqE_0 (h : rqE τ σ (j : Int)) : 0 ≤ gI τ 80 14 := by rw [h.2]; omega
/-- a sign is wanted -/
theorem T361g (h : RG σ t n k) (hc : sgn (tks t n) c k) : okc (MM 361 [mR (some 80), mI c] σ) none (fun τ => rqW τ σ ∧ RG τ t n (k + 1)) := by
  rw [M361, e361_0, T358g h.2.2]
  simp only [Option.bind_some, Option.toList_some, Option.toList_none, List.cons_append, List.nil_append]
  rw [e361_4, if_neg (by decide), T360 h]
  simp only [Option.bind_some, Option.toList_some, Option.toList_none, List.cons_append, List.nil_append]
  rw [e361_12, b2_yes hc, if_pos (by decide), e361_23, T358g h.2.2]
  simp only [Option.bind_some, Option.toList_some, Option.toList_none, List.cons_append, List.nil_append]
  rw [e361_27, if_neg (by decide)]
  refine okc_b (A355 h (by rw [hc.1]; decide)) fun τ p => ?_
  show okc (RR (lkB tb361) (B361_34, [some (mR (some 80)), some (mI c)], [], τ)) none _
  rw [e361_34]
  exact okc_s p
theorem T361e (h : RG σ t n k) (hc : ¬ sgn (tks t n) c k) : MM 361 [mR (some 80), mI c] σ = some (none, sI σ 80 14 (tB (tks t n k) : Int)) := by
  have g : 0 ≤ gI (sI σ 80 14 (tB (tks t n k) : Int)) 80 14 := rqE_0 (mis h)
  rw [M361, e361_0, T358g h.2.2]
  simp only [Option.bind_some, Option.toList_some, Option.toList_none, List.cons_append, List.nil_append]
  rw [e361_4, if_neg (by decide), T360 h]
  simp only [Option.bind_some, Option.toList_some, Option.toList_none, List.cons_append, List.nil_append]
  rw [e361_12, b2_no hc, if_neg (by decide), T359g h.2.2, RG_10 h]
  simp only [Option.bind_some, Option.toList_some, Option.toList_none, List.cons_append, List.nil_append]
  rw [e361_23, T358b g]
  simp only [Option.bind_some, Option.toList_some, Option.toList_none, List.cons_append, List.nil_append]
  rw [e361_27, if_pos rfl, e361_34]
/-- a number is wanted -/
theorem T372g (h : RG σ t n k) (hc : tK (tks t n k) = 3 ∧ tkS (tks t n k) = 0) : MM 372 [mR (some 80)] σ = some (none, σ) := by
  rw [M372, e372_0, T358g h.2.2]
  simp only [Option.bind_some, Option.toList_some, Option.toList_none, List.cons_append, List.nil_append]
  rw [e372_4, if_neg (by decide), RG_9 h, if_neg (fun z => z hc.1), RG_13 h hc.1, if_pos hc.2, e372_30]
theorem T372e (h : RG σ t n k) (hc : ¬ (tK (tks t n k) = 3 ∧ tkS (tks t n k) = 0)) : MM 372 [mR (some 80)] σ = some (none, sI σ 80 14 (tB (tks t n k) : Int)) := by
  have s22 : RR (lkB tb372) (B372_22, [some (mR (some 80))], [], σ) = some (none, sI σ 80 14 (tB (tks t n k) : Int)) := by
    rw [e372_22, T359g h.2.2, RG_10 h]
    simp only [Option.bind_some, Option.toList_some, Option.toList_none, List.cons_append, List.nil_append]
    rw [e372_30]
  rw [M372, e372_0, T358g h.2.2]
  simp only [Option.bind_some, Option.toList_some, Option.toList_none, List.cons_append, List.nil_append]
  rw [e372_4, if_neg (by decide), RG_9 h]
  by_cases c3 : tK (tks t n k) = 3
  · rw [if_neg (fun z => z c3), RG_13 h c3, if_neg (fun z => hc ⟨c3, z⟩), s22]
  · rw [if_pos c3, s22]
theorem w32_sub {a b : Nat} (h : a ≤ b) (h2 : b < 100001) : w32 ((b : Int) - (a : Int)) = ((b - a : Nat) : Int) := by
  rw [w32_i (by omega) (by omega)]
  omega
theorem n10 : ¬ (1 : Int) = 0 := by decide
theorem y00 : (0 : Int) = 0 := rfl
/-- names of signs' chars -/
theorem T362 (h : RG σ t n k) (hj : j < stN) (hs : ∀ i, i < (strAt j).length → (strAt j).getD i 0 < 128) (hl : (strAt j).length < 1000) : MM 362 [mR (some 80), mR (some (strK + j))] σ = some (some (mI (b2 (nmP' t (tks t n k) j))), σ) := by
  have le := tks_le (t := t) (n := n) k
  have n4 := h.1.2.1
  obtain ⟨T, hT⟩ : ∃ T, T = tks t n k := ⟨_, rfl⟩
  rw [← hT] at le ⊢
  have g9 : gI σ 80 9 = tK T := by rw [hT]; exact RG_9 h
  have g10 : gI σ 80 10 = (tB T : Int) := by rw [hT]; exact RG_10 h
  rw [M362, e362_0, g9]
  by_cases c2 : tK T = 2
  · have g8 : gI σ 80 8 = (tE T : Int) := by rw [hT]; exact RG_8 h (by rw [← hT, c2]; decide)
    have nmE : nmB t T (strAt j) = (decide (tE T - tB T = (strAt j).length) && (List.range (strAt j).length).all fun i => decide (t (tB T + i) = (((strAt j).getD i 0 : Nat) : Int))) := by
      unfold nmB
      rw [decide_eq_true c2, Bool.true_and]
    rw [if_neg (fun z => z c2), if_pos (ao_tx hj), T573t hj, g8, g10, w32_sub le.1 (by omega)]
    simp only [Option.bind_some, Option.toList_some, Option.toList_none, List.cons_append, List.nil_append]
    rw [e362_21]
    by_cases cl : tE T - tB T = (strAt j).length
    · rw [if_pos (by rw [cl]), b2_eq (q := ((List.range (strAt j).length).all fun i => decide (t (tB T + i) = (((strAt j).getD i 0 : Nat) : Int))) = true) (by show (nmB t T (strAt j) = true) = _; rw [nmE, decide_eq_true cl, Bool.true_and])]
      have key : ∀ (f p : Nat) (y : Int), p + f = (strAt j).length → (y = b2 (∀ i, i < p → t (tB T + i) = (((strAt j).getD i 0 : Nat) : Int))) → RR (lkB tb362) (B362_30, [some (mR (some 80)), some (mR (some (strK + j))), some (mI y), some (mI (p : Int))], [], σ) = some (some (mI (b2 (∀ i, i < (strAt j).length → t (tB T + i) = (((strAt j).getD i 0 : Nat) : Int)))), σ) := by
        intro f
        induction f with
        | zero =>
          intro p y z hy
          have z : p = (strAt j).length := by omega
          have by' : bl y := by
            rw [hy]
            unfold b2
            split
            · exact Or.inr rfl
            · exact Or.inl rfl
          rw [e362_30, if_pos (ao_tx hj), T573t hj]
          simp only [Option.bind_some, Option.toList_some, Option.toList_none, List.cons_append, List.nil_append]
          rw [e362_35, if_pos (by omega), if_pos by', hy, z]
        | succ f ih =>
          intro p y z hy
          have hp : p < (strAt j).length := by omega
          have pl : tB T + p < 4000 := by omega
          have ts := h.1.2.2.2 (tB T + p)
          have sp := hs p hp
          have iff_s : ∀ P : Nat → Prop, (∀ i, i < p + 1 → P i) ↔ ((∀ i, i < p → P i) ∧ P p) := fun P => ⟨fun a => ⟨fun i hi => a i (by omega), a p (by omega)⟩, fun a i hi => by
            by_cases e : i = p
            · rw [e]; exact a.2
            · exact a.1 i (by omega)⟩
          rw [e362_30, if_pos (ao_tx hj), T573t hj]
          simp only [Option.bind_some, Option.toList_some, Option.toList_none, List.cons_append, List.nil_append]
          rw [e362_35, if_neg (by omega), e362_69, e362_70, w32_s1 (by omega)]
          by_cases cy : y = 0
          · rw [if_pos cy]
            refine ih (p + 1) 0 (by omega) ?_
            rw [b2_no]
            intro a
            rw [hy] at cy
            have := (b2_0 (p := ∀ i, i < p → t (tB T + i) = (((strAt j).getD i 0 : Nat) : Int))) ▸ cy
            exact this ((iff_s _).mp a).1
          · have yt : ∀ i, i < p → t (tB T + i) = (((strAt j).getD i 0 : Nat) : Int) := by
              rw [hy] at cy
              exact (b2_n (p := ∀ i, i < p → t (tB T + i) = (((strAt j).getD i 0 : Nat) : Int))) ▸ cy
            rw [if_neg cy, g10, w32_a (show tB T + p < 100001 by omega), if_pos (show Option.isSome (some 81) = true ∧ ab σ 1 81 ((tB T + p : Nat) : Int) by rw [g_81]; omega), if_pos (ao_tx hj), T574t hj hp (by omega), Int.toNat_natCast, h.1.2.2.1, iAnd255]
            simp only [Option.bind_some, Option.toList_some, Option.toList_none, List.cons_append, List.nil_append]
            rw [e362_62, e362_69, e362_70, e362_70, w32_s1 (by omega)]
            by_cases ce : t (tB T + p) = (((strAt j).getD p 0 : Nat) : Int)
            · rw [if_neg (show ¬ ¬ t (tB T + p) % 256 = (((strAt j).getD p 0 : Nat) : Int) by omega)]
              refine ih (p + 1) 1 (by omega) ?_
              rw [b2_yes ((iff_s _).mpr ⟨yt, ce⟩)]
            · rw [if_pos (show ¬ t (tB T + p) % 256 = (((strAt j).getD p 0 : Nat) : Int) by omega)]
              refine ih (p + 1) 0 (by omega) ?_
              rw [b2_no (fun a => ce ((iff_s _).mp a).2)]
      have k0 := key (strAt j).length 0 1 (by omega) (b2_yes (fun i hi => by omega)).symm
      refine Eq.trans k0 ?_
      rw [b2_eq (p := ∀ i, i < (strAt j).length → t (tB T + i) = (((strAt j).getD i 0 : Nat) : Int)) (q := ((List.range (strAt j).length).all fun i => decide (t (tB T + i) = (((strAt j).getD i 0 : Nat) : Int))) = true)]
      refine propext ⟨fun a => List.all_eq_true.mpr fun i hi => decide_eq_true (a i (List.mem_range.mp hi)), fun a i hi => of_decide_eq_true (List.all_eq_true.mp a i (List.mem_range.mpr hi))⟩
    · rw [if_neg (by omega), b2_no]
      show ¬ nmB t T (strAt j) = true
      rw [nmE, decide_eq_false cl, Bool.false_and]
      decide
  · rw [if_pos c2, b2_no (fun z => c2 (nm_k z))]
end RBA
