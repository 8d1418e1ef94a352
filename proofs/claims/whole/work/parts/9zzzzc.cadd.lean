/-! ===== the class's reader: names, labels, a word comes to the others ===== -/
/-- what the class has read -/
def cRD (m : Nat) (σ : MS) (s : RD) : Prop := (gI σ 18 11 = (s.1.1 : Int) ∧ ∀ l, l < s.1.1 → gI σ 24 (2 * l) = ((s.1.2 l).1 : Int) ∧ gI σ 24 (2 * l + 1) = ((s.1.2 l).2 : Int) ∧ (s.1.2 l).1 ≤ m) ∧ (gI σ 18 13 = (s.2.1.1 : Int) ∧ ∀ u, u < s.2.1.1 → gI σ 25 (2 * u) = ((s.2.1.2 u).1 : Int) ∧ gI σ 25 (2 * u + 1) = ((s.2.1.2 u).2.1 : Int) ∧ (s.2.1.2 u).1 ≤ m) ∧ gI σ 18 1 = (s.2.2.1.1 : Int) ∧ ∀ i, i < s.2.2.1.1 → gL σ 19 i = s.2.2.1.2 i
/-- what reading may touch -/
def cfa (τ σ : MS) : Prop := (∀ k s, ¬ (k = 18 ∧ (s = 1 ∨ s = 8 ∨ s = 9 ∨ s = 11 ∨ s = 13 ∨ (16 ≤ s ∧ s ≤ 18))) → ¬ k = 24 → ¬ k = 25 → gI τ k s = gI σ k s) ∧ (∀ k s, ¬ (k = 18 ∧ (s = 14 ∨ s = 15)) → ¬ k = 19 → gL τ k s = gL σ k s) ∧ τ.2.2 = σ.2.2
def lbV (s : RD) : Option Nat → Int
  | none => -1
  | some l => ((s.1.2 l).2 : Int)
section CAD
variable {t : Nat → Int} {n i j k m l M : Nat} {σ τ ρ υ : MS} {c d e o w x y z a r op f im : Int} {v W Y V : B64} {T : TK} {s : RD}
theorem g24' (h : i < 4000) : (Option.isSome (some 24) = true ∧ ab σ 3 24 (i : Int)) := by rw [g_24]; omega
theorem g25' (h : i < 400) : (Option.isSome (some 25) = true ∧ ab σ 3 25 (i : Int)) := by rw [g_25]; omega
theorem g19' (h : i < 200) : (Option.isSome (some 19) = true ∧ ab σ 4 19 (i : Int)) := by rw [g_19]; omega
theorem w32_2 (h : l < 100000) : w32 (2 * (l : Int)) = ((2 * l : Nat) : Int) := by
  rw [show (2 * (l : Int)) = ((2 * l : Nat) : Int) by omega]
  exact w32_i (by omega) (by omega)
theorem cfa_r (σ : MS) : cfa σ σ := ⟨fun _ _ _ _ _ => rfl, fun _ _ _ _ => rfl, rfl⟩
theorem cfa_t (h1 : cfa υ τ) (h2 : cfa τ σ) : cfa υ σ := ⟨fun k s a b c => (h1.1 k s a b c).trans (h2.1 k s a b c), fun k s a b => (h1.2.1 k s a b).trans (h2.2.1 k s a b), h1.2.2.trans h2.2.2⟩
theorem cfa_c (h : ccq τ σ) : cfa τ σ := ⟨fun k s a _ _ => h.1 k s (by omega), fun k s a _ => h.2.1 k s a, h.2.2⟩
theorem cG_f (h : cG σ t n m k) (f : cfa τ σ) (a : gI τ 18 8 = (j : Int)) (hj : j ≤ m) (e9 : gI τ 18 9 = -1) : cG τ t n m j := by
  obtain ⟨⟨⟨t1, t2, t3, t4⟩, ⟨k1, k2, k3, k4, k5⟩⟩, -⟩ := h
  refine ⟨⟨⟨(gR_22 f.2.2).trans t1, t2, fun j => (f.1 _ _ (by omega) (by omega) (by omega)).trans (t3 j), t4⟩, ⟨(f.1 _ _ (by omega) (by omega) (by omega)).trans k1, k2, fun j hj => ?_, k4, k5⟩⟩, a, hj, e9⟩
  obtain ⟨a1, a2, a3, a4, a5⟩ := k3 j hj
  exact ⟨(f.1 _ _ (by omega) (by omega) (by omega)).trans a1, (f.1 _ _ (by omega) (by omega) (by omega)).trans a2, (f.1 _ _ (by omega) (by omega) (by omega)).trans a3, fun z => (f.2.1 _ _ (by omega) (by omega)).trans (a4 z), fun z => (f.2.1 _ _ (by omega) (by omega)).trans (a5 z)⟩
/-- of one name -/
theorem T152 (h : cG σ t n m k) (hi : i ≤ m) (hj : j ≤ m) : MM 152 [mR (some 18), mI (i : Int), mI (j : Int)] σ = some (some (mI (b2 (nameE t (tks t n i) (tks t n j) = true))), σ) := by
  obtain ⟨a1, a2, a3, a4, a5⟩ := cG_tk h hi
  obtain ⟨b1, b2', b3, b4, b5⟩ := cG_tk h hj
  have m4 := h.1.2.2.1
  have im : i < 4001 := by omega
  have jm : j < 4001 := by omega
  have le1 := tks_le (t := t) (n := n) i
  have le2 := tks_le (t := t) (n := n) j
  have n4 := h.1.1.2.1
  have ht := h.1.1
  generalize tks t n i = A at *
  generalize tks t n j = B at *
  rw [M152, e152_0, if_pos (g22' im), if_pos (g21' im), if_pos (g22' jm), if_pos (g21' jm), Int.toNat_natCast, Int.toNat_natCast, a2, a3, b2', b3, w32_sub le1.1 (by omega), w32_sub le2.1 (by omega)]
  by_cases cl : tE A - tB A = tE B - tB B
  · have nmF : (nameE t A B = true) = (((List.range (tE B - tB B)).all fun i => decide (t (tB A + i) = t (tB B + i))) = true) := by
      unfold nameE
      rw [decide_eq_true cl, Bool.true_and]
    rw [if_pos (by rw [cl])]
    have key : ∀ (f p : Nat), p + f = tE B - tB B → (∀ i, i < p → t (tB A + i) = t (tB B + i)) → RR (lkB tb152) (B152_36, [some (mR (some 18)), some (mI (i : Int)), some (mI (j : Int)), some (mI ((tE A - tB A : Nat) : Int)), some (mI (p : Int))], [], σ) = some (some (mI (b2 (nameE t A B = true))), σ) := by
      intro f
      induction f with
      | zero =>
        intro p z hp
        have z : p = tE B - tB B := by omega
        have tr : nameE t A B = true := by
          rw [nmF]
          exact List.all_eq_true.mpr fun i hi => decide_eq_true (hp i (by rw [z]; exact List.mem_range.mp hi))
        rw [e152_36, if_pos (by omega), b2_yes tr]
      | succ f ih =>
        intro p z hp
        have ih := ih (p + 1) (by omega)
        have nl : ¬ ((tE A - tB A : Nat) : Int) ≤ (p : Int) := by omega
        have p1 : tB A + p < n := by omega
        have p2 : tB B + p < n := by omega
        have l1 : p < 100000 := by omega
        rw [e152_36, if_neg nl, if_pos (g21' im), Int.toNat_natCast, a2, w32_a (show tB A + p < 100001 by omega), if_pos (tp_c ht p1), if_pos (g21' jm), Int.toNat_natCast, b2', w32_a (show tB B + p < 100001 by omega), if_pos (tp_c ht p2), Int.toNat_natCast, Int.toNat_natCast, tp_g ht, tp_g ht, w32_s1 l1]
        by_cases ce : t (tB A + p) = t (tB B + p)
        · rw [if_pos ce]
          exact ih fun i hi => by
            by_cases e : i = p
            · rw [e]; exact ce
            · exact hp i (by omega)
        · have fa : ¬ nameE t A B = true := fun y => by
            rw [nmF] at y
            exact ce (of_decide_eq_true (List.all_eq_true.mp y p (List.mem_range.mpr (by omega))))
          rw [if_neg ce, b2_no fa]
    exact key (tE B - tB B) 0 (by omega) (fun i hi => by omega)
  · rw [if_neg (by omega), b2_no]
    unfold nameE
    rw [decide_eq_false cl, Bool.false_and]
    decide
/-- the label of a name -/
theorem T151 (h : cG σ t n m k) (hr : cRD m σ s) (hj : j ≤ m) (hL : s.1.1 < 1999) : MM 151 [mR (some 18), mI (j : Int)] σ = some (some (mI (lbV s (labX t (tks t n) s j))), σ) := by
  obtain ⟨⟨r1, r2⟩, -⟩ := hr
  have key : ∀ (f l : Nat), l + f = s.1.1 → RR (lkB tb151) (B151_2, [some (mR (some 18)), some (mI (j : Int)), some (mI (l : Int))], [], σ) = some (some (mI (lbV s (fnd (fun l => nameE t (tks t n (s.1.2 l).1) (tks t n j)) f l))), σ) := by
    intro f
    induction f with
    | zero =>
      intro l z
      rw [e151_2, r1, if_pos (show (s.1.1 : Int) ≤ (l : Int) by omega)]
      rfl
    | succ f ih =>
      intro l z
      have ih := ih (l + 1) (by omega)
      obtain ⟨q1, q2, q3⟩ := r2 l (by omega)
      have l1 : l < 100000 := by omega
      have l2 : 2 * l < 4000 := by omega
      have l3 : 2 * l + 1 < 4000 := by omega
      have l4 : 2 * l < 100000 := by omega
      rw [e151_2, r1, if_neg (show ¬ (s.1.1 : Int) ≤ (l : Int) by omega), w32_2 l1, if_pos (g24' l2), Int.toNat_natCast, q1, T152 h q3 hj]
      simp only [Option.bind_some, Option.toList_some, Option.toList_none, List.cons_append, List.nil_append]
      rw [e151_23]
      show _ = some (some (mI (lbV s (if nameE t (tks t n (s.1.2 l).1) (tks t n j) = true then some l else fnd (fun l => nameE t (tks t n (s.1.2 l).1) (tks t n j)) f (l + 1)))), σ)
      by_cases cn : nameE t (tks t n (s.1.2 l).1) (tks t n j) = true
      · rw [b2_yes cn, if_neg n10, if_pos cn, w32_2 l1, w32_s1 l4, if_pos (g24' l3), Int.toNat_natCast, q2]
        rfl
      · rw [b2_no cn, if_pos y00, if_neg cn, w32_s1 l1]
        exact ih
  rw [M151, e151_0]
  exact key s.1.1 0 (by omega)
/-- the words go in -/
theorem A126 {q : SR} (h1 : gI ρ 18 1 = (M : Int)) (h14 : gL ρ 18 14 = srW q) (h16 : gI ρ 18 16 = q.2.1.2.2) (h15 : ¬ q.2.1.2.2 = 0 → gL ρ 18 15 = q.2.1.2.1) (hM : M + snW q ≤ 200) : okc (RR (lkB tb153) (B153_126, [some (mR (some 18)), some (mI x)], [], ρ)) (some (mI 1)) (fun τ => gI τ 18 1 = ((M + snW q : Nat) : Int) ∧ gL τ 19 M = srW q ∧ (¬ q.2.1.2.2 = 0 → gL τ 19 (M + 1) = q.2.1.2.1) ∧ (∀ i, i < M → gL τ 19 i = gL ρ 19 i) ∧ (∀ k s, ¬ (k = 18 ∧ s = 1) → gI τ k s = gI ρ k s) ∧ (∀ k s, ¬ k = 19 → gL τ k s = gL ρ k s) ∧ τ.2.2 = ρ.2.2) := by
  have w := snW_b (r := q)
  rw [e153_126, h1, if_pos (g19' (show M < 200 by omega)), Int.toNat_natCast, h14, gI_sL, h1, w32_s1 (show M < 100000 by omega)]
  have e16 : gI (sI (sL ρ 19 M (srW q)) 18 1 ((M + 1 : Nat) : Int)) 18 16 = q.2.1.2.2 := by rw [gI_sI, if_neg (by omega), gI_sL, h16]
  have e1 : gI (sI (sL ρ 19 M (srW q)) 18 1 ((M + 1 : Nat) : Int)) 18 1 = ((M + 1 : Nat) : Int) := by rw [gI_sI, if_pos ⟨rfl, rfl⟩]
  rw [e16, e1]
  by_cases c : q.2.1.2.2 = 0
  · have sn : snW q = 1 := if_pos c
    rw [if_pos c]
    refine okc_s ⟨?_, ?_, fun z => absurd c z, fun i hi => ?_, fun k s z => ?_, fun k s z => ?_, rfl⟩
    · rw [e1, sn]
    · rw [gL_sI, gL_sL, if_pos ⟨rfl, rfl⟩]
    · rw [gL_sI, gL_sL, if_neg (by omega)]
    · rw [gI_sI, if_neg z, gI_sL]
    · rw [gL_sI, gL_sL, if_neg (by omega)]
  · have sn : snW q = 2 := if_neg c
    rw [if_neg c, if_pos (g19' (show M + 1 < 200 by omega)), Int.toNat_natCast, e153_169, gI_sL, e1, w32_s1 (show M + 1 < 100000 by omega)]
    refine okc_s ⟨?_, ?_, fun _ => ?_, fun i hi => ?_, fun k s z => ?_, fun k s z => ?_, rfl⟩
    · rw [gI_sI, if_pos ⟨rfl, rfl⟩, sn]
    · rw [gL_sI, gL_sL, if_neg (by omega), gL_sI, gL_sL, if_pos ⟨rfl, rfl⟩]
    · rw [gL_sI, gL_sL, if_pos ⟨rfl, rfl⟩, gL_sI, gL_sL, if_neg (by omega), h15 c]
    · rw [gL_sI, gL_sL, if_neg (by omega), gL_sI, gL_sL, if_neg (by omega)]
    · rw [gI_sI, if_neg z, gI_sL, gI_sI, if_neg z, gI_sL]
    · rw [gL_sI, gL_sL, if_neg (by omega), gL_sI, gL_sL, if_neg (by omega)]
end CAD
