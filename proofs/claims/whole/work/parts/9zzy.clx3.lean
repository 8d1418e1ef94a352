/-! ===== the class's tokens: one, all ===== -/
/-- the class's tokens are those of the text, up to the end -/
def cTk (σ : MS) (t : Nat → Int) (n m : Nat) : Prop := gI σ 18 7 = ((m + 1 : Nat) : Int) ∧ m ≤ 4000 ∧ (∀ j, j ≤ m → tkC σ j (tks t n j)) ∧ tK (tks t n m) = 0 ∧ ∀ j, j < m → ¬ tK (tks t n j) = 0
section CLZ
variable {t : Nat → Int} {n i j k m : Nat} {σ τ ρ υ : MS} {c d e o X3 : Int} {v : B64} {q : B64 × Int} {T : TK} {x : Bool}
theorem T136 (h : cTx σ t n) (hi : i < n) (hc : c = pk t n i) (h7 : gI σ 18 7 = (m : Int)) (hm : m < 4001) : okc (MM 136 [mR (some 18), mI (i : Int), mI (n : Int), mI c] σ) (some (mI (tE (tok t n i) : Nat))) (adP σ m (tok t n i)) := by
  have n4 := h.2.1
  have w1 : w32 ((i : Int) + 1) = ((i + 1 : Nat) : Int) := w32_s1 (by omega)
  have cb : 0 ≤ c := by rw [hc, pk_1 hi]; omega
  have s104 : ∀ (T : TK) (τ : MS), adP σ m T τ → okc (RR (lkB tb136) (B136_104, [some (mR (some 18)), some (mI (i : Int)), some (mI (n : Int)), some (mI c), none], [], τ)) (some (mI (tE T : Nat))) (adP σ m T) := fun T τ p => by
    have w0 : w32 (gI τ 18 7 - 1) = (m : Int) := by
      rw [p.2.1, w32_i (by omega) (by omega)]
      omega
    rw [e136_104, w0, if_pos (g22' hm), Int.toNat_natCast, p.2.2.1.2.2.1]
    exact okc_s p
  have fin : ∀ (T : TK) (k b e : Int) (v : B64), k = kC T → b = (tB T : Int) → e = (tE T : Int) → (tK T = 3 → v = tV T) → (tK T = 4 → v = iL (sC (tkS T))) → okc (MM 134 [mR (some 18), mI k, mI b, mI e, mL v] σ) none (adP σ m T) := fun T k b e v e1 e2 e3 e4 e5 => by
    rw [e1, e2, e3]
    exact ad_P h7 hm e4 e5
  have nmL : ∀ (f j : Nat), n - j ≤ f → j ≤ n → okc (RR (lkB tb136) (B136_31, [some (mR (some 18)), some (mI (i : Int)), some (mI (n : Int)), some (mI c), some (mI (j : Int))], [], σ)) (some (mI (wh n (nmP t n) j : Nat))) (adP σ m (2, i, wh n (nmP t n) j, 0, 0)) := by
    have s69 : ∀ j : Nat, okc (RR (lkB tb136) (B136_69, [some (mR (some 18)), some (mI (i : Int)), some (mI (n : Int)), some (mI c), some (mI (j : Int))], [], σ)) (some (mI (j : Nat))) (adP σ m (2, i, j, 0, 0)) := fun j => by
      rw [e136_69]
      refine okc_b (fin (2, i, j, 0, 0) 1 _ _ _ rfl rfl rfl (fun z => by cases z) (fun z => by cases z)) fun τ p => ?_
      show okc (RR (lkB tb136) (B136_78, [some (mR (some 18)), some (mI (i : Int)), some (mI (n : Int)), some (mI c), some (mI (j : Int))], [], τ)) _ _
      rw [e136_78]
      exact okc_q (by repeat (first | exact lq_nil | refine lq_cons (Or.inr rfl) ?_ | refine lq_cons (Or.inl rfl) ?_)) (s104 (2, i, j, 0, 0) τ p)
    intro f
    induction f with
    | zero =>
      intro j hf hj
      rw [wh_e nm_n, if_neg (by rw [nm_n j (by omega)]; decide), e136_31, if_pos (by omega)]
      exact s69 j
    | succ f ih =>
      intro j hf hj
      rw [wh_e nm_n, e136_31]
      by_cases cj : j < n
      · have p : pk t n j = t j % 256 := pk_1 cj
        have ti := h.2.2.2 j
        have ih := ih (j + 1) (by omega) (by omega)
        rw [if_neg (by omega), if_pos (tp_c h cj), Int.toNat_natCast, tp_g h, T137]
        simp only [Option.bind_some, Option.toList_some, Option.toList_none, List.cons_append, List.nil_append]
        rw [e136_47, Int.toNat_natCast, tp_g h, e136_63, w32_s1 (by omega)]
        simp only [b2_n]
        by_cases c1 : isLt (t j)
        · have b : nmP t n j = true := decide_eq_true (Or.inl (by rw [p, sg_lt ti]; exact c1))
          rw [if_pos c1, if_pos b]
          exact ih
        · rw [if_neg c1, if_pos (tp_c h cj), T138]
          simp only [Option.bind_some, Option.toList_some, Option.toList_none, List.cons_append, List.nil_append]
          rw [e136_60, e136_63, w32_s1 (by omega)]
          by_cases c2 : isDg (t j)
          · have b : nmP t n j = true := decide_eq_true (Or.inr (by rw [p, sg_dg ti]; exact c2))
            rw [b2_yes c2, if_neg (by decide), if_pos b]
            exact ih
          · have b : ¬ nmP t n j = true := fun z => by
              rcases (of_decide_eq_true z : isLt (pk t n j) ∨ isDg (pk t n j)) with w | w
              · rw [p, sg_lt ti] at w; exact c1 w
              · rw [p, sg_dg ti] at w; exact c2 w
            rw [b2_no c2, if_pos rfl, if_neg b]
            exact s69 j
      · rw [if_pos (by omega), if_neg (by rw [nm_n j (by omega)]; decide)]
        exact s69 j
  rw [M136, e136_0]
  unfold tok
  rw [← hc, if_neg (show ¬ c = -1 by omega)]
  by_cases c1 : c = 10
  · rw [if_neg (fun z => z c1), if_pos c1, w1]
    refine okc_b (fin (1, i, i + 1, 0, 0) 5 _ _ _ rfl rfl rfl (fun z => by cases z) (fun z => by cases z)) fun τ p => ?_
    show okc (RR (lkB tb136) (B136_16, [some (mR (some 18)), some (mI (i : Int)), some (mI (n : Int)), some (mI c), none], [], τ)) _ _
    rw [e136_16]
    exact s104 _ τ p
  · rw [if_pos c1, if_neg c1, T137]
    simp only [Option.bind_some, Option.toList_some, Option.toList_none, List.cons_append, List.nil_append]
    rw [e136_23]
    by_cases c2 : isLt c
    · rw [b2_yes c2, if_neg (by decide), if_pos c2, w1]
      have b : nmP t n i = true := decide_eq_true (Or.inl (by rw [← hc]; exact c2))
      rw [wh_e nm_n, if_pos b]
      exact nmL (n - (i + 1)) (i + 1) (Nat.le_refl _) (by omega)
    · rw [b2_no c2, if_pos rfl, if_neg c2, T138]
      simp only [Option.bind_some, Option.toList_some, Option.toList_none, List.cons_append, List.nil_append]
      rw [e136_85]
      by_cases c3 : isDg c
      · rw [b2_yes c3, if_neg (by decide), if_pos c3]
        refine okc_b (T140 h hi h7 hm) fun τ p => ?_
        show okc (RR (lkB tb136) (B136_94, [some (mR (some 18)), some (mI (i : Int)), some (mI (n : Int)), some (mI c), none], [], τ)) _ _
        rw [e136_94]
        exact s104 _ τ p
      · rw [b2_no c3, if_pos rfl, if_neg c3]
        refine okc_b (T141 h hi hc h7 hm) fun τ p => ?_
        show okc (RR (lkB tb136) (B136_104, [some (mR (some 18)), some (mI (i : Int)), some (mI (n : Int)), some (mI c), none], [], τ)) _ _
        exact s104 _ τ p
/-- where the k-th token's reading begins -/
def sbT (t : Nat → Int) (n : Nat) : Nat → Nat
  | 0 => 0
  | k + 1 => tE (tks t n k)
theorem tks_st : tks t n k = tok t n (beg t n (sbT t n k)) := by
  cases k with
  | zero => rfl
  | succ k => rfl
theorem beg_bl (h : pk t n i = 32 ∨ pk t n i = 9) : beg t n i = beg t n (i + 1) := by
  have b : blP t n i = true := decide_eq_true h
  have e : wh n (blP t n) i = wh n (blP t n) (i + 1) := by rw [wh_e bl_n, if_pos b]
  unfold beg
  rw [e]
theorem beg_id (h : ¬ (pk t n i = 32 ∨ pk t n i = 9)) (h2 : ¬ pk t n i = 59) : beg t n i = i := by
  have b : ¬ blP t n i = true := fun z => h (of_decide_eq_true z)
  have e : wh n (blP t n) i = i := by rw [wh_e bl_n, if_neg b]
  unfold beg
  rw [e, if_neg h2]
theorem beg_se (hi : i ≤ n) (h2 : pk t n i = 59) : beg t n i = beg t n (wh n (lnP t n) i) := by
  have b : ¬ blP t n i = true := fun z => by
    have := (of_decide_eq_true z : pk t n i = 32 ∨ pk t n i = 9)
    omega
  have e : wh n (blP t n) i = i := by rw [wh_e bl_n, if_neg b]
  have a : lnP t n (wh n (lnP t n) i) = false := wh_at hi ln_n
  have a' : pk t n (wh n (lnP t n) i) = 10 ∨ pk t n (wh n (lnP t n) i) = -1 := Classical.byContradiction fun z => by
    have : lnP t n (wh n (lnP t n) i) = true := decide_eq_true z
    rw [a] at this
    cases this
  rw [beg_id (i := wh n (lnP t n) i) (by omega) (by omega)]
  unfold beg
  rw [e, if_pos h2]
theorem L133 : ∀ (f i k T3 : Nat) (ρ : MS), n - i ≤ f → i ≤ n → T3 ≤ i → k ≤ i → cTx ρ t n → gI ρ 18 7 = (k : Int) → beg t n (sbT t n k) = beg t n i → (∀ j, j < k → tkC ρ j (tks t n j) ∧ ¬ tK (tks t n j) = 0) → okc (RR (lkB tb133) (B133_9, [some (mR (some 18)), some (mI (n : Int)), some (mI (i : Int)), some (mI (T3 : Int)), none], [], ρ)) none (fun τ => cqL τ ρ ∧ ∃ m, cTk τ t n m) := by
  have s85 : ∀ (k T3 : Nat) (ρ : MS), n ≤ 4000 → k ≤ n → gI ρ 18 7 = (k : Int) → beg t n (sbT t n k) = beg t n n → (∀ j, j < k → tkC ρ j (tks t n j) ∧ ¬ tK (tks t n j) = 0) → okc (RR (lkB tb133) (B133_85, [some (mR (some 18)), some (mI (n : Int)), some (mI (n : Int)), some (mI (T3 : Int)), none], [], ρ)) none (fun τ => cqL τ ρ ∧ ∃ m, cTk τ t n m) := fun k T3 ρ n4 hk h7 hb ha => by
    have be : beg t n n = n := by
      have := beg_le (t := t) (Nat.le_refl n)
      omega
    have tn : tks t n k = (0, n, n, 0, 0) := by rw [tks_st, hb, be, tok_end (Nat.le_refl n)]
    rw [e133_85]
    refine okc_b (ad_P (T := (0, n, n, 0, 0)) (v := BitVec.ofNat 64 0) h7 (by omega) (fun z => by cases z) (fun z => by cases z)) fun τ p => ?_
    show okc (RR (lkB tb133) (B133_94, [some (mR (some 18)), some (mI (n : Int)), some (mI (n : Int)), some (mI (T3 : Int)), none], [], τ)) none _
    rw [e133_94]
    refine okc_s ⟨p.1, k, p.2.1, by omega, fun j hj => ?_, by rw [tn], fun j hj => (ha j hj).2⟩
    by_cases e : j = k
    · rw [e, tn]
      exact p.2.2.1
    · obtain ⟨a, -⟩ := ha j (by omega)
      obtain ⟨b1, b2, b3, b4⟩ := p.2.2.2 j e
      exact ⟨b1.trans a.1, b2.trans a.2.1, b3.trans a.2.2.1, fun z => b4.trans (a.2.2.2.1 z), fun z => b4.trans (a.2.2.2.2 z)⟩
  intro f
  induction f with
  | zero =>
    intro i k T3 ρ hf hi h3 hk h h7 hb ha
    have n4 := h.2.1
    have e : i = n := by omega
    subst e
    rw [e133_9, if_neg (by omega), if_pos (by omega)]
    exact s85 k T3 ρ n4 hk h7 hb ha
  | succ f ih =>
    intro i k T3 ρ hf hi h3 hk h h7 hb ha
    have n4 := h.2.1
    by_cases ci : i < n
    · have p : pk t n i = t i % 256 := pk_1 ci
      have nx : ∀ (j k' : Nat) (τ : MS) (c : Int), i < j → j ≤ n → k' ≤ j → cqL τ ρ → gI τ 18 7 = (k' : Int) → beg t n (sbT t n k') = beg t n j → (∀ i, i < k' → tkC τ i (tks t n i) ∧ ¬ tK (tks t n i) = 0) → okc (RR (lkB tb133) (B133_79, [some (mR (some 18)), some (mI (n : Int)), some (mI (j : Int)), some (mI (T3 : Int)), some (mI c)], [], τ)) none (fun τ => cqL τ ρ ∧ ∃ m, cTk τ t n m) := fun j k' τ c hij hj hk' hq h7' hb' ha' => by
        rw [e133_79, w32_s1 (by omega)]
        exact okc_q (by repeat (first | exact lq_nil | refine lq_cons (Or.inr rfl) ?_ | refine lq_cons (Or.inl rfl) ?_)) (okc_m (ih j k' (T3 + 1) τ (by omega) hj (by omega) hk' (cTx_q h hq) h7' hb' ha') fun υ u => ⟨cqL_t u.1 hq, u.2⟩)
      have g := tp_g (i := i) h
      rw [e133_9, if_neg (by omega), if_neg (by omega), if_pos (tp_c h ci), Int.toNat_natCast, g, iAnd255, ← p]
      have blk : (pk t n i = 32 ∨ pk t n i = 9) → okc (RR (lkB tb133) (B133_47, [some (mR (some 18)), some (mI (n : Int)), some (mI (i : Int)), some (mI (T3 : Int)), some (mI (pk t n i))], [], ρ)) none (fun τ => cqL τ ρ ∧ ∃ m, cTk τ t n m) := fun z => by
        rw [e133_47, w32_s1 (by omega)]
        exact nx (i + 1) k ρ _ (by omega) (by omega) (by omega) (cqL_r _) h7 (hb.trans (beg_bl z)) ha
      by_cases c1 : pk t n i = 32
      · rw [if_pos c1]
        exact blk (Or.inl c1)
      · rw [if_neg c1]
        by_cases c2 : pk t n i = 9
        · rw [if_neg (fun z => z c2)]
          exact blk (Or.inr c2)
        · rw [if_pos c2]
          by_cases c3 : pk t n i = 59
          · rw [if_neg (fun z => z c3), T135 h (by omega)]
            simp only [Option.bind_some, Option.toList_some, Option.toList_none, List.cons_append, List.nil_append]
            rw [e133_66]
            have l := wh_le (P := lnP t n) (show i + 1 ≤ n by omega)
            have b : lnP t n i = true := decide_eq_true (by omega)
            have e : wh n (lnP t n) i = wh n (lnP t n) (i + 1) := by rw [wh_e ln_n, if_pos b]
            rw [← e] at l
            exact nx (wh n (lnP t n) i) k ρ _ (by omega) (by omega) (by omega) (cqL_r _) h7 (hb.trans (beg_se hi c3)) ha
          · rw [if_pos c3]
            have be : beg t n i = i := beg_id (by omega) c3
            have tk : tks t n k = tok t n i := by rw [tks_st, hb, be]
            have te := tok_e (t := t) ci
            refine okc_b (T136 h ci rfl h7 (by omega)) fun τ q => ?_
            show okc (RR (lkB tb133) (B133_78, [some (mR (some 18)), some (mI (n : Int)), some (mI (i : Int)), some (mI (T3 : Int)), some (mI (pk t n i))], [mI (tE (tok t n i) : Nat)], τ)) none _
            rw [e133_78]
            refine nx (tE (tok t n i)) (k + 1) τ _ te.1 te.2 (by omega) q.1 q.2.1 (by show beg t n (tE (tks t n k)) = _; rw [tk]) (fun j hj => ?_)
            by_cases e : j = k
            · rw [e, tk]
              exact ⟨q.2.2.1, fun z => by have := tok_0 z; omega⟩
            · obtain ⟨a, a2⟩ := ha j (by omega)
              obtain ⟨b1, b2, b3, b4⟩ := q.2.2.2 j e
              exact ⟨⟨b1.trans a.1, b2.trans a.2.1, b3.trans a.2.2.1, fun z => b4.trans (a.2.2.2.1 z), fun z => b4.trans (a.2.2.2.2 z)⟩, a2⟩
    · have e : i = n := by omega
      subst e
      rw [e133_9, if_neg (by omega), if_pos (by omega)]
      exact s85 k T3 ρ n4 hk h7 hb ha
/-- the class finds the tokens of the text -/
theorem T133 (h : cTx σ t n) : okc (MM 133 [mR (some 18), mI (n : Int)] σ) none (fun τ => cqL τ σ ∧ ∃ m, cTk τ t n m) := by
  have fr : cqL (sI σ 18 7 0) σ := ⟨fun k s q => by rw [gI_sI, if_neg (by omega)], fun _ _ _ => rfl, rfl⟩
  rw [M133, e133_0]
  exact okc_m (L133 (n - 0) 0 0 0 (sI σ 18 7 0) (Nat.le_refl _) (by omega) (Nat.le_refl _) (Nat.le_refl _) (cTx_q h fr) (by rw [gI_sI, if_pos ⟨rfl, rfl⟩]; rfl) rfl (fun j hj => by omega)) fun τ p => ⟨cqL_t p.1 fr, p.2⟩
end CLZ
