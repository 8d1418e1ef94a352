/-! ===== side by side: tape, output, what is asked ===== -/
abbrev rlJ (k s : Nat) : Prop := (k = 80 ∧ (s = 54 ∨ s = 95)) ∨ k = 15 ∨ k = 17 ∨ k = 84 ∨ k = 85 ∨ k = 51 ∨ k = 138 ∨ k = 52 ∨ k = 139 ∨ k = 141 ∨ k = 74 ∨ 153 ≤ k
abbrev rlI (k s : Nat) : Prop := rlJ k s ∨ wdI k s
abbrev rlT (k s : Nat) : Prop := (k = 0 ∧ s = 1) ∨ (k = 80 ∧ s = 1) ∨ k = 1 ∨ k = 81
abbrev rlP (k s : Nat) : Prop := (k = 2 ∧ s = 1) ∨ k = 3 ∨ (k = 80 ∧ s = 3) ∨ k = 82
section PR1
variable {σ τ ρ υ : MS} {W V : WR} {E : EV} {n m k s : Nat} {a b c d e x y z i r : Int}
theorem gL_e (h : υ.2 = σ.2) (k s : Nat) : gL υ k s = gL σ k s := by
  unfold gL
  rw [h]
theorem ev_e (h : ∀ k s, 95 ≤ k ∧ k ≤ 98 → wg V k s = wg W k s) : evW V = evW W := by
  have e1 : (fun m => if wg V 95 m = 0 then (-1 : Int) else wg V 96 m) = fun m => if wg W 95 m = 0 then -1 else wg W 96 m := funext fun m => by rw [h 95 m (by omega), h 96 m (by omega)]
  have e2 : wg V 97 = wg W 97 := funext fun m => h 97 m (by omega)
  have e3 : wg V 98 = wg W 98 := funext fun m => h 98 m (by omega)
  unfold evW
  rw [e1, e2, e3]
theorem rel_W (R : REL σ) (F : ∀ k s, rlJ k s → gI υ k s = gI σ k s) (G : ∀ k s, ¬ ((k = 71 ∧ s = 13) ∨ (k = 80 ∧ s = 108)) → gL υ k s = gL σ k s) (e : υ.2.2 = σ.2.2) (hb : bOk υ) (tp : rTp υ) (ot : rOt υ) (wd : ∃ W, rWd υ W ∧ rTk υ (evW W)) : REL υ := by
  obtain ⟨⟨q1, q2, q3, q4, q5⟩, _, q8, q9⟩ := R
  exact ⟨⟨tp, ot, sl_k (fun s => (rt_R e).1 _ _) (fun k s z => F k s (by omega)) (fun k s z => G k s (by omega)) q3, td_k (fun k s z => F k s (by omega)) q4, kn_k (fun k s z => F k s (by omega)) (fun k s z => G k s (by omega)) q5⟩, wd, rs_k (F _ _ (by omega)) (fun k s z => G k s (by omega)) q8, in_k e hb (fun k s z => F k s (by omega)) (fun k s z => G k s (by omega)) q9⟩
theorem rel_O (R : REL σ) (F : ∀ k s, rlI k s → gI υ k s = gI σ k s) (e : υ.2 = σ.2) (hb : bOk υ) (tp : rTp υ) (ot : rOt υ) : REL υ := by
  obtain ⟨W, q6, q7⟩ := R.2.1
  exact rel_W R (fun k s z => F k s (Or.inl z)) (fun k s _ => gL_e e k s) (by rw [e]) hb tp ot ⟨W, wd_k (fun k s z => F k s (Or.inr z)) (fun k s _ => gL_e e k s) q6, tk_k (fun k s z => F k s (by omega)) (fun s => gL_e e _ s) q7⟩
theorem rel_b (R : REL σ) : bOk σ := R.2.2.2.1
theorem rel_tp (R : REL σ) : rTp σ := R.1.1
theorem rel_ot (R : REL σ) : rOt σ := R.1.2.1
theorem rel_sl (R : REL σ) : rSl σ := R.1.2.2.1
/-- only the tape's count was changed, the same on both sides -/
theorem rel_0 (R : REL σ) (hn : n ≤ 4000) : REL (sI (sI σ 0 1 (n : Int)) 80 1 (n : Int)) := by
  have g : ∀ k s, gI (sI (sI σ 0 1 (n : Int)) 80 1 (n : Int)) k s = if k = 80 ∧ s = 1 then (n : Int) else if k = 0 ∧ s = 1 then (n : Int) else gI σ k s := fun k s => by rw [gI_sI, gI_sI]
  obtain ⟨_, _, _, _, h4⟩ := rel_tp R
  refine rel_O R (fun k s z => by rw [g, if_neg (by omega), if_neg (by omega)]) rfl (bOk_w (bOk_w (rel_b R) (fun y => absurd (show (30 : Nat) = 1 from y) (by decide))) (fun y => absurd (show (31 : Nat) = 1 from y) (by decide))) ⟨n, hn, ?_, ?_, fun j => ?_⟩ (ot_k (fun k s z => by rw [g, if_neg (by omega), if_neg (by omega)]) (rel_ot R))
  · rw [g, if_neg (by decide), if_pos ⟨rfl, rfl⟩]
  · rw [g, if_pos ⟨rfl, rfl⟩]
  · rw [g, if_neg (by omega), if_neg (by omega), g, if_neg (by omega), if_neg (by omega)]
    exact h4 j
/-! feed, cut -/
theorem pr_0 (R : REL σ) : pI 291 327 [mI a, mI b, mI c, mI d, mI e] σ := by
  obtain ⟨n, n4, h1, h2, h3⟩ := rel_tp R
  by_cases hn : n + 20 ≤ 4000
  · obtain ⟨τ, t, e1, g⟩ := T291 (a := a) (b := b) (c := c) (d := d) (e := e) h1 hn
    obtain ⟨υ, t', e2, g'⟩ := T327 (σ := τ) (n := n) (a := a) (b := b) (c := c) (d := d) (e := e) (by rw [g, if_neg (by omega), if_neg (by omega)]; exact h2) hn
    have F : ∀ k s, ¬ rlT k s → gI υ k s = gI σ k s := fun k s z => by rw [g', if_neg (by omega), if_neg (by omega), g, if_neg (by omega), if_neg (by omega)]
    refine ⟨_, τ, υ, t, t', rel_O R (fun k s z => F k s (by omega)) (e2.trans e1) (MM_b (MM_b (rel_b R) t) t') ⟨n + 20, hn, ?_, ?_, fun j => ?_⟩ (ot_k (fun k s z => F k s (by omega)) (rel_ot R))⟩
    · rw [g', if_neg (by omega), if_neg (by omega), g, if_pos ⟨rfl, rfl⟩]
    · rw [g', if_pos ⟨rfl, rfl⟩]
    · have u1 : gI υ 1 j = if 1 = 1 ∧ n ≤ j ∧ j < n + 20 then fd5 a b c d e (j - n) else gI σ 1 j := by rw [g', if_neg (by omega), if_neg (by omega), g, if_neg (by omega)]
      have u2 : gI υ 81 j = if 81 = 81 ∧ n ≤ j ∧ j < n + 20 then fd5 a b c d e (j - n) else gI τ 81 j := by rw [g', if_neg (by omega)]
      rw [u1, u2]
      by_cases q : n ≤ j ∧ j < n + 20
      · rw [if_pos ⟨rfl, q⟩, if_pos ⟨rfl, q⟩]
      · rw [if_neg (fun z => q z.2), if_neg (fun z => q z.2), g, if_neg (by omega), if_neg (by omega)]
        exact h3 j
  · exact ⟨_, σ, σ, T291n h1 (by omega) n4, T327n h2 (by omega) n4, R⟩
theorem pr_1 (R : REL σ) : pI 293 329 [mI x] σ := by
  obtain ⟨n, n4, h1, h2, h3⟩ := rel_tp R
  have t := T293 (x := x) h1 n4
  by_cases q : 0 ≤ x ∧ x ≤ (n : Int)
  · rw [if_pos q, if_pos q] at t
    have t' := T329 (σ := sI σ 0 1 x) (n := n) (x := x) (by rw [gI_sI, if_neg (by decide)]; exact h2) n4
    rw [if_pos q, if_pos q] at t'
    have e : x = ((x.toNat : Nat) : Int) := by omega
    refine ⟨_, _, _, t, t', ?_⟩
    rw [e]
    exact rel_0 R (by omega)
  · rw [if_neg q, if_neg q] at t
    have t' := T329 (σ := σ) (n := n) (x := x) h2 n4
    rw [if_neg q, if_neg q] at t'
    exact ⟨_, _, _, t, t', R⟩
/-! words, word, print, outs, out -/
theorem nat8 (h : ¬ (x < 0 ∨ 8 ≤ x)) : ∃ X : Nat, X < 8 ∧ x = (X : Int) := ⟨x.toNat, by omega, by omega⟩
theorem pr_4 (R : REL σ) : pI 297 347 [mI x] σ := by
  by_cases h : x < 0 ∨ 8 ≤ x
  · exact ⟨_, σ, σ, T297n h, T347n h, R⟩
  · obtain ⟨X, hX, rfl⟩ := nat8 h
    refine ⟨_, σ, σ, T297 hX, ?_, R⟩
    rw [((rel_sl R).2 X hX).1]
    exact T347 hX
theorem pr_5 (R : REL σ) : pL 298 348 [mI x, mI y] σ := by
  by_cases h : x < 0 ∨ 8 ≤ x
  · exact ⟨_, σ, σ, T298n h, T348n h, R⟩
  · obtain ⟨X, hX, rfl⟩ := nat8 h
    obtain ⟨s1, s2⟩ := rel_sl R
    obtain ⟨a1, a2, a3⟩ := s2 X hX
    refine ⟨_, σ, σ, T298 hX (s1 X hX) (by omega), ?_, R⟩
    have t := T348 (σ := σ) (y := y) hX a2.2
    rw [a1]
    by_cases q : 0 ≤ y ∧ y < gI σ 84 X
    · rw [if_pos q] at t ⊢
      rw [a3 y.toNat (by omega)]
      exact t
    · rw [if_neg q] at t ⊢
      exact t
theorem pr_6 (R : REL σ) : pI 299 398 [mI x] σ := by
  by_cases h : x < 0 ∨ 8 ≤ x
  · exact ⟨_, σ, σ, T299n (Or.inl h), T398n (Or.inl h), R⟩
  · obtain ⟨X, hX, rfl⟩ := nat8 h
    obtain ⟨s1, s2⟩ := rel_sl R
    obtain ⟨a1, a2, a3⟩ := s2 X hX
    by_cases z : gI σ 84 X = 0
    · exact ⟨_, σ, σ, T299n (Or.inr ⟨X, hX, rfl, a1.trans z⟩), T398n (Or.inr ⟨X, hX, rfl, z⟩), R⟩
    · obtain ⟨n, hn⟩ : ∃ n : Nat, gI σ 84 X = (n : Int) := ⟨(gI σ 84 X).toNat, by omega⟩
      obtain ⟨τ, t, o, qc⟩ := T299 hX (s1 X hX) (a1.trans hn) (by omega) (by omega)
      have g84 : gI τ 84 X = (n : Int) := (qc.1 _ _ (by omega)).trans hn
      obtain ⟨υ, t', o', qr⟩ := T398 (σ := τ) hX g84 (by omega) (by omega)
      have ep : prA (fun j => gL τ 83 (200 * X + j)) n n 0 = prA (fun j => gL σ (7 + X) j) n n 0 := prA_e (p := fun j => gL τ 83 (200 * X + j)) (p' := fun j => gL σ (7 + X) j) (fun j hj => by
        show gL τ 83 (200 * X + j) = gL σ (7 + X) j
        rw [gL_e qc.2]
        exact (a3 j (by omega)).symm) n 0
      rw [ep] at t' o'
      have F : ∀ k s, ¬ (k = 3 ∨ k = 4 ∨ (k = 2 ∧ s = 1) ∨ k = 82 ∨ k = 94 ∨ (k = 80 ∧ s = 3)) → gI υ k s = gI σ k s := fun k s z => (qr.1 k s (by omega)).trans (qc.1 k s (by omega))
      have pl := prA_l (p := fun j => gL σ (7 + X) j) (n := n) n 0
      refine ⟨_, τ, υ, t, t', rel_O R (fun k s z => F k s (by omega)) (qr.2.trans qc.2) (MM_b (MM_b (rel_b R) t) t') (tp_k (fun k s z => F k s (by omega)) (rel_tp R)) ⟨_, ?_, otC_k (fun k s z => qr.1 k s (by omega)) o, o'⟩⟩
      omega
theorem pr_7 (R : REL σ) : pI 300 349 [] σ := by
  obtain ⟨L, l1, l2, l3⟩ := rel_ot R
  refine ⟨_, σ, σ, T300, ?_, R⟩
  rw [l2.1, ← l3.1]
  exact T349
theorem pr_8 (R : REL σ) : pI 301 350 [mI x] σ := by
  obtain ⟨L, l1, l2, l3⟩ := rel_ot R
  have e2 := l2.1
  have e3 := l3.1
  refine ⟨_, σ, σ, T301 (by omega), ?_, R⟩
  have t := T350 (σ := σ) (x := x) (by omega)
  rw [e3] at t
  rw [e2]
  by_cases q : 0 ≤ x ∧ x < (L.length : Int)
  · rw [if_pos q] at t ⊢
    rw [l2.2 _ (by omega), ← l3.2 _ (by omega)]
    exact t
  · rw [if_neg q] at t ⊢
    exact t
/-! taken, told, known -/
theorem pr_10 (R : REL σ) : pI 303 471 [mI x] σ := by
  by_cases h : x < 0 ∨ 8 ≤ x
  · exact ⟨_, σ, σ, T303n h, T471n h, R⟩
  · obtain ⟨X, hX, rfl⟩ := nat8 h
    obtain ⟨W, ⟨w1, w2, _⟩, _⟩ := R.2.1
    have e : gI σ 16 X = gI σ 85 X := ((w2.2.2.2.2.2.1 X hX).symm).trans (w1.1 85 X (by omega))
    refine ⟨_, σ, σ, T303 hX, ?_, R⟩
    rw [e]
    exact T471 hX
theorem pr_11 (R : REL σ) : pI 304 472 [mI x] σ := by
  refine ⟨_, σ, σ, T304, ?_, R⟩
  have t := T472 (σ := σ) (x := x)
  by_cases q : 0 ≤ x ∧ x ≤ 5
  · rw [if_pos q] at t ⊢
    rw [R.1.2.2.2.1 x.toNat (by omega)]
    by_cases c : x = 0
    · rw [if_pos c] at t
      rw [if_pos (show x.toNat = 0 by omega)]
      exact t
    · rw [if_neg c] at t
      rw [if_neg (show ¬ x.toNat = 0 by omega)]
      exact t
  · rw [if_neg q] at t ⊢
    exact t
theorem pr_12 (R : REL σ) : pL 305 491 [mI i, mI r, mI x] σ := by
  obtain ⟨X, k1, k2, k3⟩ := R.1.2.2.2.2
  refine ⟨_, σ, σ, T305, ?_, R⟩
  have t := T491 (σ := σ) (i := i) (r := r) (x := x)
  by_cases q : (0 ≤ i ∧ i < 200) ∧ (0 ≤ r ∧ r < 10) ∧ (0 ≤ x ∧ x ≤ 9)
  · obtain ⟨a1, a2⟩ := kn_eq (i := i.toNat) (r := r.toNat) (x := x.toNat) k1 k2 k3 (by omega) (by omega) (by omega)
    by_cases z : gI σ 139 i.toNat = 0
    · rw [if_neg (fun y => y.2.2.2 z)] at t
      rw [if_neg (fun y => y.2.2.2 (a1.mpr z))]
      exact t
    · rw [if_pos ⟨q.1, q.2.1, q.2.2, z⟩] at t
      rw [if_pos ⟨q.1, q.2.1, q.2.2, fun y => z (a1.mp y)⟩, a2 z]
      exact t
  · rw [if_neg (fun y => q ⟨y.1, y.2.1, y.2.2.1⟩)] at t ⊢
    exact t
/-! numbers that are told -/
theorem rel_w (R : REL σ) : ∃ W, (wldR σ W ∧ wldO σ W ∧ invW W ∧ W5 W ∧ MP W ∧ K8 W) ∧ rTk σ (evW W) := R.2.1
theorem pr_22 (R : REL σ) : pI 315 538 [] σ := by
  obtain ⟨W, ⟨w1, w2, _⟩, _⟩ := rel_w R
  refine ⟨_, σ, σ, T315, ?_, R⟩
  rw [← w2.2.2.2.2.1.1, w1.1 80 105 (by omega)]
  exact T538
theorem pr_25 (R : REL σ) : pI 318 541 [] σ := by
  obtain ⟨W, ⟨w1, w2, _⟩, _⟩ := rel_w R
  refine ⟨_, σ, σ, T318, ?_, R⟩
  rw [← w2.2.2.2.2.2.2.2.1.1, w1.1 80 106 (by omega)]
  exact T541
theorem pr_29 (R : REL σ) : pI 322 544 [] σ := by
  obtain ⟨W, ⟨w1, w2, _⟩, _⟩ := rel_w R
  refine ⟨_, σ, σ, T322, ?_, R⟩
  rw [← w2.2.2.2.2.1.2.1, w1.1 80 110 (by omega)]
  exact T544
theorem pr_31 (R : REL σ) : pI 324 546 [] σ := by
  obtain ⟨W, ⟨w1, w2, _⟩, _⟩ := rel_w R
  refine ⟨_, σ, σ, T324, ?_, R⟩
  rw [← w2.2.2.2.2.1.2.2, w1.1 80 113 (by omega)]
  exact T546
theorem pr_28 (R : REL σ) : pL 321 543 [] σ := by
  refine ⟨_, σ, σ, T321, ?_, R⟩
  rw [R.2.2.1.1]
  exact T543
theorem pr_30 (R : REL σ) : pL 323 545 [] σ := by
  obtain ⟨W, ⟨w1, w2, _⟩, _⟩ := rel_w R
  refine ⟨_, σ, σ, T323, ?_, R⟩
  have e : gL σ 71 16 = gL σ 80 111 := w2.2.2.2.2.2.2.2.2.2.symm.trans w1.2.2
  rw [e]
  exact T545
theorem pr_23 (R : REL σ) : pI 316 539 [mI x] σ := by
  obtain ⟨W, ⟨w1, w2, hI, _⟩, _⟩ := rel_w R
  have e1 : wg W 80 105 = gI σ 71 10 := w2.2.2.2.2.1.1
  have e2 : wg W 80 105 = gI σ 80 105 := w1.1 80 105 (by omega)
  have b := hI.2.2.2.1.1
  refine ⟨_, σ, σ, T316 (by omega), ?_, R⟩
  have t := T539 (σ := σ) (x := x) (by omega)
  rw [← e2] at t
  rw [← e1]
  by_cases q : 0 ≤ x ∧ x < wg W 80 105
  · rw [if_pos q] at t ⊢
    rw [← w2.2.2.2.1 x.toNat (by omega), w1.1 144 x.toNat (by omega)]
    exact t
  · rw [if_neg q] at t ⊢
    exact t
theorem pr_32 (R : REL σ) : pI 325 547 [mI x] σ := by
  obtain ⟨W, ⟨w1, w2, hI, _⟩, _⟩ := rel_w R
  have e1 : wg W 80 113 = gI σ 71 18 := w2.2.2.2.2.1.2.2
  have e2 : wg W 80 113 = gI σ 80 113 := w1.1 80 113 (by omega)
  have b := hI.2.2.2.1.2.1
  refine ⟨_, σ, σ, T325 (by omega), ?_, R⟩
  have t := T547 (σ := σ) (x := x) (by omega)
  rw [← e2] at t
  rw [← e1]
  by_cases q : 0 ≤ x ∧ x < wg W 80 113
  · rw [if_pos q] at t ⊢
    rw [← w2.2.2.2.2.2.2.1 x.toNat (by omega), w1.1 145 x.toNat (by omega)]
    exact t
  · rw [if_neg q] at t ⊢
    exact t
end PR1
