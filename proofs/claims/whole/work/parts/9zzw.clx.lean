/-! ===== the class's tokens ===== -/
/-- the text at hand, in the class -/
def cTx (σ : MS) (t : Nat → Int) (n : Nat) : Prop := gR σ 18 2 = some 1 ∧ n ≤ 4000 ∧ (∀ j, gI σ 1 j = t j) ∧ ∀ j, -128 ≤ t j ∧ t j < 128
/-- a sign, as the class tells it -/
def sC (s : Int) : Int := if s < 256 then s else if s < 65536 then s / 256 + s % 256 * 256 else s / 65536 + s / 256 % 256 * 256 + s % 256 * 65536
def kC (T : TK) : Int := if tK T = 0 then 6 else if tK T = 1 then 5 else if tK T = 2 then 1 else if tK T = 3 then (if tkS T = 0 then 2 else 3) else if tK T = 4 then 4 else 7
def tkC (σ : MS) (j : Nat) (T : TK) : Prop := gI σ 20 j = kC T ∧ gI σ 21 j = (tB T : Int) ∧ gI σ 22 j = (tE T : Int) ∧ (tK T = 3 → gL σ 23 j = tV T) ∧ (tK T = 4 → gL σ 23 j = iL (sC (tkS T)))
def cqL (τ σ : MS) : Prop := (∀ k s, ¬ ((k = 18 ∧ s = 7) ∨ k = 20 ∨ k = 21 ∨ k = 22) → gI τ k s = gI σ k s) ∧ (∀ k s, ¬ k = 23 → gL τ k s = gL σ k s) ∧ τ.2.2 = σ.2.2
/-- a token more -/
def adP (σ : MS) (m : Nat) (T : TK) (τ : MS) : Prop := cqL τ σ ∧ gI τ 18 7 = ((m + 1 : Nat) : Int) ∧ tkC τ m T ∧ ∀ s, ¬ s = m → gI τ 20 s = gI σ 20 s ∧ gI τ 21 s = gI σ 21 s ∧ gI τ 22 s = gI σ 22 s ∧ gL τ 23 s = gL σ 23 s
section CLX
variable {t : Nat → Int} {n i j k m : Nat} {σ τ ρ υ : MS} {c d e o : Int} {v : B64} {q : B64 × Int} {T : TK}
theorem cqL_r (σ : MS) : cqL σ σ := ⟨fun _ _ _ => rfl, fun _ _ _ => rfl, rfl⟩
theorem cqL_t (h1 : cqL υ τ) (h2 : cqL τ σ) : cqL υ σ := ⟨fun k s q => (h1.1 k s q).trans (h2.1 k s q), fun k s q => (h1.2.1 k s q).trans (h2.2.1 k s q), h1.2.2.trans h2.2.2⟩
theorem gR_22 (h : τ.2.2 = σ.2.2) : gR τ k i = gR σ k i := by
  show τ.2.2.1 k i = σ.2.2.1 k i
  rw [h]
theorem cTx_q (h : cTx σ t n) (q : cqL τ σ) : cTx τ t n := ⟨(gR_22 q.2.2).trans h.1, h.2.1, fun j => (q.1 _ _ (by omega)).trans (h.2.2.1 j), h.2.2.2⟩
theorem g23' (h : m < 4001) : (Option.isSome (some 23) = true ∧ ab σ 4 23 (m : Int)) := by rw [g_23]; omega
theorem g20' (h : m < 4001) : (Option.isSome (some 20) = true ∧ ab σ 3 20 (m : Int)) := by rw [g_20]; omega
theorem g21' (h : m < 4001) : (Option.isSome (some 21) = true ∧ ab σ 3 21 (m : Int)) := by rw [g_21]; omega
theorem g22' (h : m < 4001) : (Option.isSome (some 22) = true ∧ ab σ 3 22 (m : Int)) := by rw [g_22]; omega
theorem g1' (h : m < 4000) : (Option.isSome (some 1) = true ∧ ab σ 1 1 (m : Int)) := by rw [g_1]; omega
theorem T134 {a b e : Int} (h7 : gI σ 18 7 = (m : Int)) (hm : m < 4001) : MM 134 [mR (some 18), mI a, mI b, mI e, mL v] σ = some (none, sI (sL (sI (sI (sI σ 20 m a) 21 m b) 22 m e) 23 m v) 18 7 ((m + 1 : Nat) : Int)) := by
  have a1 : gI (sI σ 20 m a) 18 7 = (m : Int) := by rw [gI_sI, if_neg (by omega)]; exact h7
  have a2 : gI (sI (sI σ 20 m a) 21 m b) 18 7 = (m : Int) := by rw [gI_sI, if_neg (by omega)]; exact a1
  have a3 : gI (sI (sI (sI σ 20 m a) 21 m b) 22 m e) 18 7 = (m : Int) := by rw [gI_sI, if_neg (by omega)]; exact a2
  rw [M134, e134_0, h7, Int.toNat_natCast, a1, Int.toNat_natCast, a2, Int.toNat_natCast, if_pos (g20' hm), if_pos (g21' hm), if_pos (g22' hm), e134_30, a3, Int.toNat_natCast, if_pos (g23' hm), gI_sL, a3, w32_s1 (by omega)]
theorem ad_P (h7 : gI σ 18 7 = (m : Int)) (hm : m < 4001) (h3 : tK T = 3 → v = tV T) (h4 : tK T = 4 → v = iL (sC (tkS T))) : okc (MM 134 [mR (some 18), mI (kC T), mI (tB T : Int), mI (tE T : Int), mL v] σ) none (adP σ m T) := by
  refine okc_o (T134 h7 hm) ⟨⟨fun k s q => ?_, fun k s q => ?_, rfl⟩, ?_, ⟨?_, ?_, ?_, fun z => ?_, fun z => ?_⟩, fun s z => ⟨?_, ?_, ?_, ?_⟩⟩
  · rw [gI_sI, if_neg (by omega), gI_sL, gI_sI, if_neg (by omega), gI_sI, if_neg (by omega), gI_sI, if_neg (by omega)]
  · rw [gL_sI, gL_sL, if_neg (by omega)]; rfl
  · rw [gI_sI, if_pos ⟨rfl, rfl⟩]
  · rw [gI_sI, if_neg (by omega), gI_sL, gI_sI, if_neg (by omega), gI_sI, if_neg (by omega), gI_sI, if_pos ⟨rfl, rfl⟩]
  · rw [gI_sI, if_neg (by omega), gI_sL, gI_sI, if_neg (by omega), gI_sI, if_pos ⟨rfl, rfl⟩]
  · rw [gI_sI, if_neg (by omega), gI_sL, gI_sI, if_pos ⟨rfl, rfl⟩]
  · rw [gL_sI, gL_sL, if_pos ⟨rfl, rfl⟩]; exact h3 z
  · rw [gL_sI, gL_sL, if_pos ⟨rfl, rfl⟩]; exact h4 z
  · rw [gI_sI, if_neg (by omega), gI_sL, gI_sI, if_neg (by omega), gI_sI, if_neg (by omega), gI_sI, if_neg (by omega)]
  · rw [gI_sI, if_neg (by omega), gI_sL, gI_sI, if_neg (by omega), gI_sI, if_neg (by omega), gI_sI, if_neg (by omega)]
  · rw [gI_sI, if_neg (by omega), gI_sL, gI_sI, if_neg (by omega), gI_sI, if_neg (by omega), gI_sI, if_neg (by omega)]
  · rw [gL_sI, gL_sL, if_neg (by omega)]; rfl
theorem T138 : MM 138 [mI c] σ = some (some (mI (b2 (isDg c))), σ) := by
  rw [M138, e138_0, e138_16]
  by_cases c1 : c < 48
  · rw [if_pos c1, b2_no (fun q => by have := q.1; omega)]
  · rw [if_neg c1]
    by_cases c2 : 57 < c
    · rw [if_pos c2, b2_no (fun q => by have := q.2; omega)]
    · rw [if_neg c2, b2_yes ⟨by omega, by omega⟩]
theorem T137 : MM 137 [mI c] σ = some (some (mI (b2 (isLt c))), σ) := by
  rw [M137, e137_0, e137_12, e137_24, e137_30]
  by_cases q : isLt c
  · rw [b2_yes q]
    by_cases c1 : c < 97
    · rw [if_pos c1]
      by_cases c2 : c < 65
      · rcases q with q | q | q <;> omega
      · rw [if_neg c2]
        by_cases c3 : c ≤ 90
        · rw [if_pos c3]
        · rw [if_neg c3, if_neg (show ¬ ¬ c = 95 by rcases q with q | q | q <;> omega)]
    · rw [if_neg c1, if_pos (show c ≤ 122 by rcases q with q | q | q <;> omega)]
  · rw [b2_no q]
    by_cases c1 : c < 97
    · rw [if_pos c1]
      by_cases c2 : c < 65
      · rw [if_pos c2, if_pos (fun z => q (Or.inr (Or.inr z)))]
      · rw [if_neg c2, if_neg (fun z => q (Or.inr (Or.inl ⟨by omega, z⟩))), if_pos (fun z => q (Or.inr (Or.inr z)))]
    · rw [if_neg c1, if_neg (fun z => q (Or.inl ⟨by omega, z⟩)), if_neg (show ¬ c < 65 by omega), if_neg (show ¬ c ≤ 90 by omega), if_pos (show ¬ c = 95 by omega)]
theorem T139 (h : -200 ≤ c ∧ c < 300) : MM 139 [mI c] σ = some (some (mI (hexV c)), σ) := by
  have w1 : w32 (c - 48) = c - 48 := w32_i (by omega) (by omega)
  have w2 : w32 (w32 (c - 97) + 10) = c - 97 + 10 := by rw [w32_i (x := c - 97) (by omega) (by omega), w32_i (by omega) (by omega)]
  have w3 : w32 (w32 (c - 65) + 10) = c - 65 + 10 := by rw [w32_i (x := c - 65) (by omega) (by omega), w32_i (by omega) (by omega)]
  rw [M139, e139_0, T138, Option.bind_some]
  show RR (lkB tb139) (B139_4, [some (mI c)], [mI (b2 (isDg c))], σ) = _
  rw [e139_4, e139_32, e139_54, w1, w2, w3]
  unfold hexV
  by_cases d : isDg c
  · rw [b2_yes d, if_neg (by decide), if_pos d]
  · rw [b2_no d, if_pos rfl, if_neg d]
    by_cases c1 : c < 97
    · rw [if_pos c1, if_neg (show ¬ (97 ≤ c ∧ c ≤ 102) by omega)]
      by_cases c2 : c < 65
      · rw [if_pos c2, if_neg (show ¬ (65 ≤ c ∧ c ≤ 70) by omega)]
      · rw [if_neg c2]
        by_cases c3 : 70 < c
        · rw [if_pos c3, if_neg (show ¬ (65 ≤ c ∧ c ≤ 70) by omega)]
        · rw [if_neg c3, if_pos (show 65 ≤ c ∧ c ≤ 70 by omega)]
    · rw [if_neg c1]
      by_cases c2 : 102 < c
      · rw [if_pos c2, if_neg (show ¬ (97 ≤ c ∧ c ≤ 102) by omega), if_neg (show ¬ c < 65 by omega), if_pos (show 70 < c by omega), if_neg (show ¬ (65 ≤ c ∧ c ≤ 70) by omega)]
      · rw [if_neg c2, if_pos (show 97 ≤ c ∧ c ≤ 102 by omega)]
/-- bytes with sign do as well -/
theorem sg_lt {x : Int} (h : -128 ≤ x ∧ x < 128) : isLt (x % 256) = isLt x := by
  refine propext ⟨fun z => ?_, fun z => ?_⟩
  · rcases z with z | z | z
    · exact Or.inl (by omega)
    · exact Or.inr (Or.inl (by omega))
    · exact Or.inr (Or.inr (by omega))
  · rcases z with z | z | z
    · exact Or.inl (by omega)
    · exact Or.inr (Or.inl (by omega))
    · exact Or.inr (Or.inr (by omega))
theorem sg_dg {x : Int} (h : -128 ≤ x ∧ x < 128) : isDg (x % 256) = isDg x := propext ⟨fun z => ⟨by omega, by omega⟩, fun z => ⟨by omega, by omega⟩⟩
theorem sg_hx {x : Int} (h : -128 ≤ x ∧ x < 128) : hexV (x % 256) = hexV x := by
  by_cases c : 0 ≤ x
  · rw [show x % 256 = x by omega]
  · unfold hexV
    rw [if_neg (show ¬ isDg (x % 256) from fun z => by have := z.2; omega), if_neg (show ¬ isDg x from fun z => by have := z.1; omega), if_neg (by omega), if_neg (by omega), if_neg (by omega), if_neg (by omega)]
theorem sg_eq {x : Int} {a : Int} (h : -128 ≤ x ∧ x < 128) (ha : 0 ≤ a ∧ a < 128) : (x % 256 = a) = (x = a) := propext ⟨fun z => by omega, fun z => by omega⟩
/-- a line's end -/
theorem T135 (h : cTx σ t n) (hi : i ≤ n) : MM 135 [mR (some 18), mI (i : Int), mI (n : Int)] σ = some (some (mI (wh n (lnP t n) i : Nat)), σ) := by
  obtain ⟨h1, h2, h3, h4⟩ := h
  have key : ∀ (a : Int) (f i : Nat), n - i ≤ f → i ≤ n → RR (lkB tb135) (B135_2, [some (mR (some 18)), some (mI a), some (mI (n : Int)), some (mI (i : Int))], [], σ) = some (some (mI (wh n (lnP t n) i : Nat)), σ) := by
    intro a f
    induction f with
    | zero =>
      intro i hf hi
      rw [wh_e ln_n, if_neg (by rw [ln_n i (by omega)]; decide), e135_2, if_pos (by omega)]
    | succ f ih =>
      intro i hf hi
      rw [e135_2, wh_e ln_n]
      by_cases c : i < n
      · rw [if_neg (by omega), h1, Option.getD_some, if_pos (g1' (by omega)), Int.toNat_natCast, h3]
        have p : pk t n i = t i % 256 := pk_1 c
        have h4i := h4 i
        by_cases c2 : t i = 10
        · have b : ¬ lnP t n i = true := fun z => (of_decide_eq_true z : ¬ (pk t n i = 10 ∨ pk t n i = -1)) (Or.inl (by rw [p, c2]; decide))
          rw [if_pos c2, if_neg b]
        · have b : lnP t n i = true := decide_eq_true (show ¬ (pk t n i = 10 ∨ pk t n i = -1) by rw [p]; omega)
          rw [if_neg c2, if_pos b, w32_s1 (by omega)]
          exact ih (i + 1) (by omega) (by omega)
      · rw [if_pos (by omega), if_neg (by rw [ln_n i (by omega)]; decide)]
  rw [M135, e135_0]
  exact key _ (n - i) i (Nat.le_refl _) hi
/-- one of some signs -/
theorem T143 (hj : j < stN) (hs : ∀ i, i < (strAt j).length → (strAt j).getD i 0 < 256) (hl : (strAt j).length < 1000) : MM 143 [mI c, mR (some (strK + j))] σ = some (some (mI (if ((strAt j).any fun x => decide ((x : Int) = c)) = true then 1 else 0)), σ) := by
  have key : ∀ (f p : Nat), p + f = (strAt j).length → RR (lkB tb143) (B143_2, [some (mI c), some (mR (some (strK + j))), some (mI (p : Int))], [], σ) = some (some (mI (if (((strAt j).drop p).any fun x => decide ((x : Int) = c)) = true then 1 else 0)), σ) := by
    intro f
    induction f with
    | zero =>
      intro p z
      have z : p = (strAt j).length := by omega
      rw [e143_2, if_pos (ao_tx hj), T573t hj]
      simp only [Option.bind_some, Option.toList_some, Option.toList_none, List.cons_append, List.nil_append]
      rw [e143_7, if_pos (by omega), List.drop_of_length_le (by omega)]
      rfl
    | succ f ih =>
      intro p z
      have hp : p < (strAt j).length := by omega
      rw [e143_2, if_pos (ao_tx hj), T573t hj]
      simp only [Option.bind_some, Option.toList_some, Option.toList_none, List.cons_append, List.nil_append]
      rw [e143_7, if_neg (by omega), if_pos (ao_tx hj), T574t hj hp (hs p hp)]
      simp only [Option.bind_some, Option.toList_some, Option.toList_none, List.cons_append, List.nil_append]
      rw [e143_15, w32_s1 (by omega), ih (p + 1) (by omega), List.drop_eq_getElem_cons hp, List.any_cons]
      have ge : (strAt j).getD p 0 = (strAt j)[p] := by
        rw [List.getD_eq_getElem?_getD, List.getElem?_eq_getElem hp]
        rfl
      rw [ge]
      by_cases e : (((strAt j)[p] : Nat) : Int) = c
      · rw [if_neg (fun z => z e), decide_eq_true e, Bool.true_or, if_pos rfl]
      · rw [if_pos e, decide_eq_false e, Bool.false_or]
  rw [M143, e143_0]
  have := key (strAt j).length 0 (by omega)
  rw [List.drop_zero] at this
  exact this
theorem st_49 : strAt 49 = [61, 33, 43, 45, 42, 47, 37, 38, 124, 94, 60, 62] := by decide +kernel
theorem st_50 : strAt 50 = [40, 41, 58, 44, 61, 43, 45, 42, 47, 37, 38, 124, 94, 60, 62] := by decide +kernel
theorem T143a : MM 143 [mI c, mR (some (strK + 49))] σ = some (some (mI (b2 (sg2 c))), σ) := by
  rw [T143 (by decide) (by rw [st_49]; decide) (by rw [st_49]; decide), st_49]
  by_cases q : sg2 c
  · rw [b2_yes q, if_pos]
    simp only [List.any_cons, List.any_nil, Bool.or_eq_true, decide_eq_true_eq, Bool.false_eq_true, or_false]
    omega
  · rw [b2_no q, if_neg]
    unfold sg2 at q
    simp only [List.any_cons, List.any_nil, Bool.or_eq_true, decide_eq_true_eq, Bool.false_eq_true, or_false]
    omega
theorem T143b : MM 143 [mI c, mR (some (strK + 50))] σ = some (some (mI (b2 (sg1 c))), σ) := by
  rw [T143 (by decide) (by rw [st_50]; decide) (by rw [st_50]; decide), st_50]
  by_cases q : sg1 c
  · rw [b2_yes q, if_pos]
    simp only [List.any_cons, List.any_nil, Bool.or_eq_true, decide_eq_true_eq, Bool.false_eq_true, or_false]
    omega
  · rw [b2_no q, if_neg]
    unfold sg1 at q
    simp only [List.any_cons, List.any_nil, Bool.or_eq_true, decide_eq_true_eq, Bool.false_eq_true, or_false]
    omega
theorem T142 {a b c : Int} : MM 142 [mI a, mI b, mI c] σ = some (some (mL (iL (iOr (iOr a (iShl b 8)) (iShl c 16)))), σ) := by
  rw [M142, e142_0]
end CLX
