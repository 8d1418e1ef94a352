/-! ===== the reference's tokens ===== -/
/-- the text at hand, in the reference -/
def rTx (σ : MS) (t : Nat → Int) (n : Nat) : Prop := gI σ 80 7 = (n : Int) ∧ n ≤ 4000 ∧ (∀ j, gI σ 81 j = t j) ∧ ∀ j, -128 ≤ t j ∧ t j < 128
/-- the reference's token at hand -/
def tkR (σ : MS) (T : TK) : Prop := gI σ 80 9 = tK T ∧ gI σ 80 10 = (tB T : Int) ∧ (¬ tK T = 5 → gI σ 80 8 = (tE T : Int)) ∧ (tK T = 3 → gL σ 80 12 = tV T ∧ gI σ 80 13 = tkS T) ∧ (tK T = 4 → gI σ 80 11 = tkS T)
/-- what reading a token may touch -/
def rqL (τ σ : MS) : Prop := (∀ k s, ¬ (k = 80 ∧ 8 ≤ s ∧ s ≤ 13) → gI τ k s = gI σ k s) ∧ (∀ k s, ¬ (k = 80 ∧ s = 12) → gL τ k s = gL σ k s) ∧ τ.2.2 = σ.2.2
section RLX
variable {t : Nat → Int} {n i j k : Nat} {σ τ ρ υ : MS} {c : Int}
theorem rqL_r (σ : MS) : rqL σ σ := ⟨fun _ _ _ => rfl, fun _ _ _ => rfl, rfl⟩
theorem rqL_t (h1 : rqL υ τ) (h2 : rqL τ σ) : rqL υ σ := ⟨fun k s q => (h1.1 k s q).trans (h2.1 k s q), fun k s q => (h1.2.1 k s q).trans (h2.2.1 k s q), h1.2.2.trans h2.2.2⟩
theorem rqL_I {s : Nat} {x : Int} (h : 8 ≤ s ∧ s ≤ 13) : rqL (sI σ 80 s x) σ := by
  refine ⟨fun k' s' q => ?_, fun _ _ _ => rfl, rfl⟩
  rw [gI_sI, if_neg]
  intro z
  rw [z.1, z.2] at q
  exact q ⟨rfl, h⟩
theorem rqL_L {x : B64} : rqL (sL σ 80 12 x) σ := by
  refine ⟨fun _ _ _ => rfl, fun k' s' q => ?_, rfl⟩
  rw [gL_sL, if_neg q]
theorem rTx_q (h : rTx σ t n) (q : rqL τ σ) : rTx τ t n := ⟨(q.1 _ _ (by omega)).trans h.1, h.2.1, fun j => (q.1 _ _ (by omega)).trans (h.2.2.1 j), h.2.2.2⟩
theorem w32_a {a b : Nat} (h : a + b < 100001) : w32 ((a : Int) + (b : Int)) = ((a + b : Nat) : Int) := by
  rw [w32_i (by omega) (by omega)]
  rfl
theorem T351 {m : Nat} (h : rTx σ t n) (hi : gI σ 80 8 = (i : Int)) (hm : i + m < 5000) : MM 351 [mR (some 80), mI (m : Int)] σ = some (some (mI (pk t n (i + m))), σ) := by
  obtain ⟨h1, h2, h3, h4⟩ := h
  rw [M351, e351_0, h1, hi, w32_a (by omega)]
  by_cases c : i + m < n
  · rw [if_neg (by omega), if_pos (show Option.isSome (some 81) = true ∧ ab σ 1 81 ((i + m : Nat) : Int) by rw [g_81]; omega), Int.toNat_natCast, h3, iAnd255, pk_1 c]
  · rw [if_pos (by omega), pk_0 (by omega)]
theorem P0 (h : rTx σ t n) (hi : gI σ 80 8 = (i : Int)) (hm : i ≤ n) : MM 351 [mR (some 80), mI 0] σ = some (some (mI (pk t n i)), σ) := T351 (m := 0) h hi (by have := h.2.1; omega)
theorem P1 (h : rTx σ t n) (hi : gI σ 80 8 = (i : Int)) (hm : i ≤ n) : MM 351 [mR (some 80), mI 1] σ = some (some (mI (pk t n (i + 1))), σ) := T351 (m := 1) h hi (by have := h.2.1; omega)
theorem P2 (h : rTx σ t n) (hi : gI σ 80 8 = (i : Int)) (hm : i ≤ n) : MM 351 [mR (some 80), mI 2] σ = some (some (mI (pk t n (i + 2))), σ) := T351 (m := 2) h hi (by have := h.2.1; omega)
theorem T352 : MM 352 [mI c] σ = some (some (mI (b2 (isDg c))), σ) := by
  rw [M352, e352_0, e352_16]
  by_cases c1 : c < 48
  · rw [if_pos c1, b2_no (fun q => by have := q.1; omega)]
  · rw [if_neg c1]
    by_cases c2 : 57 < c
    · rw [if_pos c2, b2_no (fun q => by have := q.2; omega)]
    · rw [if_neg c2, b2_yes ⟨by omega, by omega⟩]
theorem T353 : MM 353 [mI c] σ = some (some (mI (b2 (isLt c))), σ) := by
  rw [M353, e353_0, e353_12, e353_24, e353_30]
  by_cases q : isLt c
  · rw [b2_yes q]
    by_cases c1 : c < 97
    · rw [if_pos c1]
      by_cases c2 : c < 65
      · rcases q with q | q | q <;> omega
      · rw [if_neg c2]
        by_cases c3 : c ≤ 90
        · rw [if_pos c3]
        · rw [if_neg c3, if_neg (show ¬ ¬ c = 95 by rcases q with q | q | q <;> omega)]
    · rw [if_neg c1, if_pos (show c ≤ 122 by rcases q with q | q | q <;> omega)]
  · rw [b2_no q]
    by_cases c1 : c < 97
    · rw [if_pos c1]
      by_cases c2 : c < 65
      · rw [if_pos c2, if_pos (fun z => q (Or.inr (Or.inr z)))]
      · rw [if_neg c2, if_neg (fun z => q (Or.inr (Or.inl ⟨by omega, z⟩))), if_pos (fun z => q (Or.inr (Or.inr z)))]
    · rw [if_neg c1, if_neg (fun z => q (Or.inl ⟨by omega, z⟩)), if_neg (show ¬ c < 65 by omega), if_neg (show ¬ c ≤ 90 by omega), if_pos (show ¬ c = 95 by omega)]
theorem T354 (h : -200 ≤ c ∧ c < 300) : MM 354 [mI c] σ = some (some (mI (hexV c)), σ) := by
  have w1 : w32 (c - 48) = c - 48 := w32_i (by omega) (by omega)
  have w2 : w32 (w32 (c - 97) + 10) = c - 97 + 10 := by rw [w32_i (x := c - 97) (by omega) (by omega), w32_i (by omega) (by omega)]
  have w3 : w32 (w32 (c - 65) + 10) = c - 65 + 10 := by rw [w32_i (x := c - 65) (by omega) (by omega), w32_i (by omega) (by omega)]
  rw [M354, e354_0, T352, Option.bind_some]
  show RR (lkB tb354) (B354_4, [some (mI c)], [mI (b2 (isDg c))], σ) = _
  rw [e354_4, e354_36, e354_58, w1, w2, w3]
  unfold hexV
  by_cases d : isDg c
  · rw [b2_yes d, if_neg (by decide), if_pos d]
  · rw [b2_no d, if_pos rfl, if_neg d]
    by_cases c1 : c < 97
    · rw [if_pos c1, if_neg (show ¬ (97 ≤ c ∧ c ≤ 102) by omega)]
      by_cases c2 : c < 65
      · rw [if_pos c2, if_neg (show ¬ (65 ≤ c ∧ c ≤ 70) by omega)]
      · rw [if_neg c2]
        by_cases c3 : 70 < c
        · rw [if_pos c3, if_neg (show ¬ (65 ≤ c ∧ c ≤ 70) by omega)]
        · rw [if_neg c3, if_pos (show 65 ≤ c ∧ c ≤ 70 by omega)]
    · rw [if_neg c1]
      by_cases c2 : 102 < c
      · rw [if_pos c2, if_neg (show ¬ (97 ≤ c ∧ c ≤ 102) by omega), if_neg (show ¬ c < 65 by omega), if_pos (show 70 < c by omega), if_neg (show ¬ (65 ≤ c ∧ c ≤ 70) by omega)]
      · rw [if_neg c2, if_pos (show 97 ≤ c ∧ c ≤ 102 by omega)]
theorem sI8_same {σ : MS} (h : gI σ 80 8 = (i : Int)) : sI σ 80 8 (i : Int) = σ := by
  rw [← h]
  show (u2 σ.1 80 8 (σ.1 80 8), σ.2) = σ
  have : u2 σ.1 80 8 (σ.1 80 8) = σ.1 := by
    funext k s
    show (if k = 80 ∧ s = 8 then σ.1 80 8 else σ.1 k s) = σ.1 k s
    split
    · rename_i q
      rw [q.1, q.2]
    · rfl
  rw [this]
theorem at8 {x : Int} : gI (sI σ 80 8 x) 80 8 = x := by rw [gI_sI, if_pos ⟨rfl, rfl⟩]
theorem rTx_8 {x : Int} (h : rTx σ t n) : rTx (sI σ 80 8 x) t n := rTx_q h (rqL_I ⟨by omega, by omega⟩)
theorem w32_s1 {a : Nat} (h : a < 100000) : w32 ((a : Int) + 1) = ((a + 1 : Nat) : Int) := w32_a (a := a) (b := 1) (by omega)
/-- blanks -/
theorem L355a (h : rTx σ t n) : ∀ (f i : Nat), n - i ≤ f → i ≤ n → RR (lkB tb355) (B355_0, [some (mR (some 80)), none], [], sI σ 80 8 (i : Int)) = (if ¬ pk t n (wh n (blP t n) i) = 59 then RR (lkB tb355) (B355_75, [some (mR (some 80)), none], [], sI σ 80 8 (wh n (blP t n) i : Nat)) else RR (lkB tb355) (B355_43, [some (mR (some 80)), none], [], sI σ 80 8 (wh n (blP t n) i : Nat))) := by
  have n4 := h.2.1
  intro f
  induction f with
  | zero =>
    intro i hf hi
    have e : wh n (blP t n) i = i := by rw [wh_e bl_n, if_neg (by rw [bl_n i (by omega)]; decide)]
    have p := P0 (rTx_8 (x := (i : Int)) h) at8 hi
    have q := pk_0 (t := t) (n := n) (i := i) (by omega)
    rw [e, e355_0, p, q]
    simp only [Option.bind_some, Option.toList_some, List.cons_append, List.nil_append]
    rw [e355_5, if_neg (by decide), p, q]
    simp only [Option.bind_some, Option.toList_some, List.cons_append, List.nil_append]
    rw [e355_15, if_pos (by decide), p, q]
    simp only [Option.bind_some, Option.toList_some, List.cons_append, List.nil_append]
    rw [e355_38]
  | succ f ih =>
    intro i hf hi
    have p := P0 (rTx_8 (x := (i : Int)) h) at8 hi
    rw [wh_e bl_n]
    by_cases b : pk t n i = 32 ∨ pk t n i = 9
    · have hin : i < n := pk_p (t := t) (by omega)
      have b' : blP t n i = true := decide_eq_true b
      rw [if_pos b', ← ih (i + 1) (by omega) (by omega), e355_0, p]
      simp only [Option.bind_some, Option.toList_some, List.cons_append, List.nil_append]
      rw [e355_5]
      have s20 : RR (lkB tb355) (B355_20, [some (mR (some 80)), none], [], sI σ 80 8 (i : Int)) = RR (lkB tb355) (B355_0, [some (mR (some 80)), none], [], sI σ 80 8 ((i + 1 : Nat) : Int)) := by
        rw [e355_20, at8, w32_s1 (by omega), sI_same]
      by_cases c1 : pk t n i = 32
      · rw [if_pos c1, s20]
      · rw [if_neg c1, p]
        simp only [Option.bind_some, Option.toList_some, List.cons_append, List.nil_append]
        rw [e355_15, if_neg (show ¬ ¬ pk t n i = 9 by omega), s20]
    · have b' : ¬ blP t n i = true := fun z => b (of_decide_eq_true z)
      rw [if_neg b', e355_0, p]
      simp only [Option.bind_some, Option.toList_some, List.cons_append, List.nil_append]
      rw [e355_5, if_neg (by omega), p]
      simp only [Option.bind_some, Option.toList_some, List.cons_append, List.nil_append]
      rw [e355_15, if_pos (by omega), p]
      simp only [Option.bind_some, Option.toList_some, List.cons_append, List.nil_append]
      rw [e355_38]
/-- up to the line's end -/
theorem L355b (h : rTx σ t n) : ∀ (f i : Nat), n - i ≤ f → i ≤ n → RR (lkB tb355) (B355_43, [some (mR (some 80)), none], [], sI σ 80 8 (i : Int)) = RR (lkB tb355) (B355_75, [some (mR (some 80)), none], [], sI σ 80 8 (wh n (lnP t n) i : Nat)) := by
  have n4 := h.2.1
  intro f
  induction f with
  | zero =>
    intro i hf hi
    have e : wh n (lnP t n) i = i := by rw [wh_e ln_n, if_neg (by rw [ln_n i (by omega)]; decide)]
    have p := P0 (rTx_8 (x := (i : Int)) h) at8 hi
    have q := pk_0 (t := t) (n := n) (i := i) (by omega)
    rw [e, e355_43, p, q]
    simp only [Option.bind_some, Option.toList_some, List.cons_append, List.nil_append]
    rw [e355_48, if_neg (by decide), p, q]
    simp only [Option.bind_some, Option.toList_some, List.cons_append, List.nil_append]
    rw [e355_58, if_pos rfl]
  | succ f ih =>
    intro i hf hi
    have p := P0 (rTx_8 (x := (i : Int)) h) at8 hi
    rw [wh_e ln_n]
    by_cases b : pk t n i = 10 ∨ pk t n i = -1
    · have b' : ¬ lnP t n i = true := fun z => (of_decide_eq_true z : ¬ (pk t n i = 10 ∨ pk t n i = -1)) b
      rw [if_neg b', e355_43, p]
      simp only [Option.bind_some, Option.toList_some, List.cons_append, List.nil_append]
      rw [e355_48]
      by_cases c1 : pk t n i = 10
      · rw [if_pos c1]
      · rw [if_neg c1, p]
        simp only [Option.bind_some, Option.toList_some, List.cons_append, List.nil_append]
        rw [e355_58, if_pos (show pk t n i = -1 by omega)]
    · have hin : i < n := pk_p (t := t) (by have := pk_b (t := t) (n := n) (i := i); omega)
      have b' : lnP t n i = true := decide_eq_true b
      rw [if_pos b', ← ih (i + 1) (by omega) (by omega), e355_43, p]
      simp only [Option.bind_some, Option.toList_some, List.cons_append, List.nil_append]
      rw [e355_48, if_neg (by omega), p]
      simp only [Option.bind_some, Option.toList_some, List.cons_append, List.nil_append]
      rw [e355_58, if_neg (show ¬ pk t n i = -1 by omega), at8, w32_s1 (by omega), sI_same]
theorem L355c (h : rTx σ t n) (h8 : gI σ 80 8 = (i : Int)) (hi : i ≤ n) : RR (lkB tb355) (B355_0, [some (mR (some 80)), none], [], σ) = RR (lkB tb355) (B355_75, [some (mR (some 80)), none], [], sI σ 80 8 (beg t n i : Nat)) := by
  have a := L355a h (n - i) i (Nat.le_refl _) hi
  rw [sI8_same h8] at a
  rw [a]
  unfold beg
  by_cases c : pk t n (wh n (blP t n) i) = 59
  · rw [if_neg (fun z => z c), if_pos c]
    exact L355b h _ _ (Nat.le_refl _) (wh_le hi).2
  · rw [if_pos c, if_neg c]
/-- a name -/
theorem L355d (h : rTx σ t n) {x1 : Int} : ∀ (f i : Nat), n - i ≤ f → i ≤ n → RR (lkB tb355) (B355_138, [some (mR (some 80)), some (mI x1)], [], sI σ 80 8 (i : Int)) = some (none, sI σ 80 8 (wh n (nmP t n) i : Nat)) := by
  have n4 := h.2.1
  have step : ∀ i, i ≤ n → RR (lkB tb355) (B355_138, [some (mR (some 80)), some (mI x1)], [], sI σ 80 8 (i : Int)) = if isLt (pk t n i) ∨ isDg (pk t n i) then RR (lkB tb355) (B355_160, [some (mR (some 80)), some (mI x1)], [], sI σ 80 8 (i : Int)) else some (none, sI σ 80 8 (i : Int)) := fun i hi => by
    have p := P0 (rTx_8 (x := (i : Int)) h) at8 hi
    rw [e355_138, p]
    simp only [Option.bind_some, Option.toList_some, List.cons_append, List.nil_append]
    rw [e355_143, T353]
    simp only [Option.bind_some, Option.toList_some, List.cons_append, List.nil_append]
    rw [e355_146]
    simp only [b2_n]
    by_cases c1 : isLt (pk t n i)
    · rw [if_pos c1, if_pos (Or.inl c1)]
    · rw [if_neg c1, p]
      simp only [Option.bind_some, Option.toList_some, List.cons_append, List.nil_append]
      rw [e355_154, T352]
      simp only [Option.bind_some, Option.toList_some, List.cons_append, List.nil_append]
      rw [e355_157, e355_192]
      by_cases c2 : isDg (pk t n i)
      · rw [b2_yes c2, if_neg (by decide), if_pos (Or.inr c2)]
      · rw [b2_no c2, if_pos rfl, if_neg (fun z => z.elim c1 c2)]
  intro f
  induction f with
  | zero =>
    intro i hf hi
    have e : wh n (nmP t n) i = i := by rw [wh_e nm_n, if_neg (by rw [nm_n i (by omega)]; decide)]
    have q := pk_0 (t := t) (n := n) (i := i) (by omega)
    rw [e, step i hi, q, if_neg (by decide)]
  | succ f ih =>
    intro i hf hi
    rw [step i hi, wh_e nm_n]
    by_cases b : isLt (pk t n i) ∨ isDg (pk t n i)
    · have hin : i < n := pk_p (t := t) (by rcases b with b | b <;> omega)
      have b' : nmP t n i = true := decide_eq_true b
      rw [if_pos b, if_pos b', ← ih (i + 1) (by omega) (by omega), e355_160, at8, w32_s1 (by omega), sI_same]
    · have b' : ¬ nmP t n i = true := fun z => b (of_decide_eq_true z)
      rw [if_neg b, if_neg b']
end RLX
