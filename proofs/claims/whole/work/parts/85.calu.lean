/-! ===== the class's ALU instructions ===== -/
section CAL2
variable {a b c τ σ ρ : MS} {k j pl r : Nat} {E : EV} {w : B64} {S : ST} {t : Int} {u v p : VL} {n : N6} {x : B64} {o : Int}
/-- a field of a VALUE is written -/
theorem cx_set {i : Nat} (hi : i < 11) (c : cxV τ σ k pl v) (e : ∀ i', i' < 11 → ¬ i' = i → enV u i' = enV v i') (e2 : enV u i = x) : cxV (sL τ (k + 1 + 0) (pl + i) x) σ k pl u := by
  obtain ⟨c1, c2, c3, c4⟩ := c
  refine ⟨c1, fun k' s q => ?_, c3, fun i' hi' => ?_⟩
  · rw [gL_sL, if_neg (by omega)]
    exact c2 k' s q
  · rw [gL_sL]
    by_cases z : i' = i
    · rw [if_pos ⟨rfl, by omega⟩, z, e2]
    · rw [if_neg (by omega), e i' hi' z]
      exact c4 i' hi'
theorem i11 {P : Nat → Prop} (h0 : P 0) (h1 : P 1) (h2 : P 2) (h3 : P 3) (h4 : P 4) (h5 : P 5) (h6 : P 6) (h7 : P 7) (h8 : P 8) (h9 : P 9) (h10 : P 10) {i : Nat} (hi : i < 11) : P i := by
  have c : i = 0 ∨ i = 1 ∨ i = 2 ∨ i = 3 ∨ i = 4 ∨ i = 5 ∨ i = 6 ∨ i = 7 ∨ i = 8 ∨ i = 9 ∨ i = 10 := by omega
  rcases c with rfl | rfl | rfl | rfl | rfl | rfl | rfl | rfl | rfl | rfl | rfl <;> assumption
theorem cx_7 (c : cxV τ σ k pl v) : cxV (sL τ (k + 1 + 0) (pl + 7) (iL o)) σ k pl (vO v o) := cx_set (by decide) c (fun i' hi' => i11 (P := fun i' => ¬ i' = 7 → enV (vO v o) i' = enV v i') (fun _ => rfl) (fun _ => rfl) (fun _ => rfl) (fun _ => rfl) (fun _ => rfl) (fun _ => rfl) (fun _ => rfl) (fun z => absurd rfl z) (fun _ => rfl) (fun _ => rfl) (fun _ => rfl) hi') rfl
theorem cx_10 (c : cxV τ σ k pl v) : cxV (sL τ (k + 1 + 0) (pl + 10) (iL o)) σ k pl (vT v o) := cx_set (by decide) c (fun i' hi' => i11 (P := fun i' => ¬ i' = 10 → enV (vT v o) i' = enV v i') (fun _ => rfl) (fun _ => rfl) (fun _ => rfl) (fun _ => rfl) (fun _ => rfl) (fun _ => rfl) (fun _ => rfl) (fun _ => rfl) (fun _ => rfl) (fun _ => rfl) (fun z => absurd rfl z) hi') rfl
theorem cx_9 (c : cxV τ σ k pl v) (h : ¬ vk v = 0) : cxV (sL τ (k + 1 + 0) (pl + 9) (iL o)) σ k pl (vR v o) := by
  have h' : ¬ vk (vR v o) = 0 := h
  refine cx_set (by decide) c (fun i' hi' => i11 (P := fun i' => ¬ i' = 9 → enV (vR v o) i' = enV v i') (fun _ => rfl) (fun _ => ?_) (fun _ => rfl) (fun _ => rfl) (fun _ => rfl) (fun _ => rfl) (fun _ => rfl) (fun _ => rfl) (fun _ => rfl) (fun z => absurd rfl z) (fun _ => rfl) hi') ?_
  · show (if vk (vR v o) = 0 then iL (vr (vR v o)) else jV (vn (vR v o))) = (if vk v = 0 then iL (vr v) else jV (vn v))
    rw [if_neg h, if_neg h']
  · show (if vk (vR v o) = 0 then 0#64 else iL o) = iL o
    rw [if_neg h']
theorem cx_num (c : cxV τ σ k pl v) (h : ¬ vk v = 0) : cxV (wRN τ (k + 1 + 0) pl n) σ k pl (vN v n) := by
  have h' : ¬ vk (vN v n) = 0 := h
  obtain ⟨c1, c2, c3, c4⟩ := c
  refine ⟨c1, fun k' s q => ?_, c3, fun i hi => ?_⟩
  · unfold wRN
    rw [gL_sL, if_neg (by omega), gL_sL, if_neg (by omega), gL_sL, if_neg (by omega), gL_sL, if_neg (by omega), gL_sL, if_neg (by omega), gL_sL, if_neg (by omega)]
    exact c2 k' s q
  · unfold wRN
    rw [gL_sL, gL_sL, gL_sL, gL_sL, gL_sL, gL_sL]
    have cc : i = 0 ∨ i = 1 ∨ i = 2 ∨ i = 3 ∨ i = 4 ∨ i = 5 ∨ i = 6 ∨ 7 ≤ i := by omega
    rcases cc with cc | cc | cc | cc | cc | cc | cc | cc
    · rw [if_neg (by omega), if_neg (by omega), if_neg (by omega), if_neg (by omega), if_neg (by omega), if_neg (by omega), c4 i hi, cc]
      rfl
    · subst cc
      rw [if_neg (by omega), if_neg (by omega), if_neg (by omega), if_neg (by omega), if_neg (by omega), if_pos ⟨rfl, rfl⟩]
      show jV n = (if vk (vN v n) = 0 then iL (vr (vN v n)) else jV (vn (vN v n)))
      rw [if_neg h']
    · subst cc
      rw [if_neg (by omega), if_neg (by omega), if_neg (by omega), if_neg (by omega), if_pos ⟨rfl, rfl⟩]
      rfl
    · subst cc
      rw [if_neg (by omega), if_neg (by omega), if_neg (by omega), if_pos ⟨rfl, rfl⟩]
      rfl
    · subst cc
      rw [if_neg (by omega), if_neg (by omega), if_pos ⟨rfl, rfl⟩]
      rfl
    · subst cc
      rw [if_neg (by omega), if_pos ⟨rfl, rfl⟩]
      rfl
    · subst cc
      rw [if_pos ⟨rfl, rfl⟩]
      rfl
    · rw [if_neg (by omega), if_neg (by omega), if_neg (by omega), if_neg (by omega), if_neg (by omega), if_neg (by omega), c4 i hi]
      refine i11 (P := fun i => 7 ≤ i → enV v i = enV (vN v n) i) ?_ ?_ ?_ ?_ ?_ ?_ ?_ (fun _ => rfl) (fun _ => rfl) (fun _ => rfl) (fun _ => rfl) hi cc
      all_goals (intro z; exfalso; omega)
theorem iLI (x : B64) : iL x.toInt = x := by
  unfold iL
  exact BitVec.ofInt_toInt
theorem T251 {tn : Int} (H : SC σ k j E w) (hS : CSt σ k S) (P : PX S E t) (hd : fD w ≤ 9) (hs : tn = 1 → fS w ≤ 10) (htn : tn = 0 ∨ tn = 1) (hp : p = rgV S (if tn = 0 then dR w else sRr w)) :
    okc (MM 251 [mR (some 40), mI tn, mL x] σ) (some (mI (if x.toInt < -8192 ∨ 8192 < x.toInt ∨ vo p + x.toInt < -4096 ∨ 4096 < vo p + x.toInt then 5 else 0))) (fun τ => (if x.toInt < -8192 ∨ 8192 < x.toInt ∨ vo p + x.toInt < -4096 ∨ 4096 < vo p + x.toInt then τ = σ else cxV τ σ k (pR S (dR w)) (vO p (vo p + x.toInt)))) := by
  have F := PX_F P
  have k1 := sc_k H
  obtain ⟨r, hr⟩ : ∃ r, r = (if tn = 0 then dR w else sRr w) := ⟨_, rfl⟩
  have r10 : r ≤ 10 := by
    rw [hr]
    split
    · exact dR_10 (by omega)
    · exact sR_10 (hs (by omega))
  rw [← hr] at hp
  have pa := cAt_rg hS F.1 r10
  rw [← hp] at pa
  have wp := okW_r P r10
  rw [← hp] at wp
  have l := pR_lt F r10
  have ld := pR_lt F (dR_10 (show fD w ≤ 10 by omega))
  have s19 : MM 251 [mR (some 40), mI tn, mL x] σ = RR (lkB tb251) (B251_19, [some (mR (some 40)), some (mI tn), some (mL x), none, some (mI ((pR S (dR w) : Nat) : Int)), none, none, none], [mI ((pR S r : Nat) : Int)], σ) := by
    rcases htn with z | z
    · rw [hr, if_pos z]
      simp only [M251, e251_0, e251_4, Option.getD_some, Option.bind_some, Option.toList_some, Option.toList_none, List.cons_append, List.nil_append, and_self, and_true, true_and, false_and, and_false, ite_self, not_true_eq_false, not_false_eq_true, reduceIte, Nat.reduceEqDiff, ab_I, ab_L, ab_R, ao_I, ao_L, ao_R, gL_sL, gI_sI, gR_sR, gI_sL, gI_sR, gL_sI, gL_sR, gR_sI, gR_sL, T241 H hS F (show fD w ≤ 10 by omega), z]
    · have nz : ¬ tn = 0 := by omega
      rw [hr, if_neg nz]
      simp only [M251, e251_0, e251_4, e251_14, Option.getD_some, Option.bind_some, Option.toList_some, Option.toList_none, List.cons_append, List.nil_append, and_self, and_true, true_and, false_and, and_false, ite_self, not_true_eq_false, not_false_eq_true, reduceIte, Nat.reduceEqDiff, ab_I, ab_L, ab_R, ao_I, ao_L, ao_R, gL_sL, gI_sI, gR_sR, gI_sL, gI_sR, gL_sI, gL_sR, gR_sI, gR_sL, T241 H hS F (show fD w ≤ 10 by omega), nz, T242 H hS F (hs z)]
  have w7 : w32 (((pR S r : Nat) : Int) + 7) = ((pR S r + 7 : Nat) : Int) := w_pl (c := 7) (by omega)
  have w7d : w32 (((pR S (dR w) : Nat) : Int) + 7) = ((pR S (dR w) + 7 : Nat) : Int) := w_pl (c := 7) (by omega)
  have g7 := gSt k1 (show pR S r + 7 < 1188 by omega)
  have c1 : (BitVec.toInt x < BitVec.toInt (iL (-8192))) = (x.toInt < -8192) := by rw [iLt (by decide) (by decide)]
  have c2 : (BitVec.toInt (iL 8192) < BitVec.toInt x) = (8192 < x.toInt) := by rw [iLt (by decide) (by decide)]
  have wo := wp.2.2.2.1
  have xs := iLI x
  rw [s19]
  by_cases d1 : x.toInt < -8192
  · rw [if_pos (Or.inl d1)]
    refine okc_o (τ := σ) ?_ ((if_pos (Or.inl d1)).mpr rfl)
    simp only [e251_19, Option.getD_some, Option.bind_some, Option.toList_some, Option.toList_none, List.cons_append, List.nil_append, and_self, and_true, true_and, false_and, and_false, ite_self, not_true_eq_false, not_false_eq_true, reduceIte, Nat.reduceEqDiff, ab_I, ab_L, ab_R, ao_I, ao_L, ao_R, gL_sL, gI_sI, gR_sR, gI_sL, gI_sR, gL_sI, gL_sR, gR_sI, gR_sL, sc_h H, sc_ao H, g7, w7, c1, eq_true d1]
  · by_cases d2 : 8192 < x.toInt
    · rw [if_pos (Or.inr (Or.inl d2))]
      refine okc_o (τ := σ) ?_ ((if_pos (Or.inr (Or.inl d2))).mpr rfl)
      simp only [e251_19, Option.getD_some, Option.bind_some, Option.toList_some, Option.toList_none, List.cons_append, List.nil_append, and_self, and_true, true_and, false_and, and_false, ite_self, not_true_eq_false, not_false_eq_true, reduceIte, Nat.reduceEqDiff, ab_I, ab_L, ab_R, ao_I, ao_L, ao_R, gL_sL, gI_sI, gR_sR, gI_sL, gI_sR, gL_sI, gL_sR, gR_sI, gR_sL, sc_h H, sc_ao H, g7, w7, c1, c2, d1, eq_true d2]
    · have es : gL σ (k + 1 + 0) (pR S r + 7) + x = iL (vo p + x.toInt) := by
        rw [rd_7 pa, ← iLa, xs]
      have c3 : (BitVec.toInt (iL (vo p + x.toInt)) < BitVec.toInt (iL (-4096))) = (vo p + x.toInt < -4096) := by rw [iLt (x := -4096) (by decide) (by decide), iLt (by omega) (by omega)]
      have c4 : (BitVec.toInt (iL (vo p + x.toInt)) ≤ BitVec.toInt (iL 4096)) = (vo p + x.toInt ≤ 4096) := by rw [iLt (x := 4096) (by decide) (by decide), iLt (by omega) (by omega)]
      by_cases d3 : vo p + x.toInt < -4096
      · rw [if_pos (Or.inr (Or.inr (Or.inl d3)))]
        refine okc_o (τ := σ) ?_ ((if_pos (Or.inr (Or.inr (Or.inl d3)))).mpr rfl)
        simp only [e251_19, Option.getD_some, Option.bind_some, Option.toList_some, Option.toList_none, List.cons_append, List.nil_append, and_self, and_true, true_and, false_and, and_false, ite_self, not_true_eq_false, not_false_eq_true, reduceIte, Nat.reduceEqDiff, ab_I, ab_L, ab_R, ao_I, ao_L, ao_R, gL_sL, gI_sI, gR_sR, gI_sL, gI_sR, gL_sI, gL_sR, gR_sI, gR_sL, sc_h H, sc_ao H, g7, w7, c1, c2, d1, d2, Int.toNat_natCast, es, c3, eq_true d3]
      · by_cases d4 : vo p + x.toInt ≤ 4096
        · have nb : ¬ (x.toInt < -8192 ∨ 8192 < x.toInt ∨ vo p + x.toInt < -4096 ∨ 4096 < vo p + x.toInt) := by omega
          obtain ⟨τ1, t16, q16⟩ := T216 (a := pR S r) (b := pR S (dR w)) k1 l ld pa
          have q7 := cx_7 (o := vo p + x.toInt) q16
          rw [if_neg nb]
          refine okc_o (τ := sL τ1 (k + 1 + 0) (pR S (dR w) + 7) (iL (vo p + x.toInt))) ?_ ((if_neg nb).mpr q7)
          have H1 := SC_q (sfq_v (j := j) q16) H
          have g7d := gSt (sc_k H1) (show pR S (dR w) + 7 < 1188 by omega)
          simp only [e251_19, e251_85, Option.getD_some, Option.bind_some, Option.toList_some, Option.toList_none, List.cons_append, List.nil_append, and_self, and_true, true_and, false_and, and_false, ite_self, not_true_eq_false, not_false_eq_true, reduceIte, Nat.reduceEqDiff, ab_I, ab_L, ab_R, ao_I, ao_L, ao_R, gL_sL, gI_sI, gR_sR, gI_sL, gI_sR, gL_sI, gL_sR, gR_sI, gR_sL, sc_h H, sc_ao H, g7, w7, c1, c2, d1, d2, Int.toNat_natCast, es, c3, d3, c4, eq_true d4, t16, sc_h H1, sc_ao H1, w7d, g7d]
        · have bd : x.toInt < -8192 ∨ 8192 < x.toInt ∨ vo p + x.toInt < -4096 ∨ 4096 < vo p + x.toInt := by omega
          rw [if_pos bd]
          refine okc_o (τ := σ) ?_ ((if_pos bd).mpr rfl)
          simp only [e251_19, Option.getD_some, Option.bind_some, Option.toList_some, Option.toList_none, List.cons_append, List.nil_append, and_self, and_true, true_and, false_and, and_false, ite_self, not_true_eq_false, not_false_eq_true, reduceIte, Nat.reduceEqDiff, ab_I, ab_L, ab_R, ao_I, ao_L, ao_R, gL_sL, gI_sI, gR_sR, gI_sL, gI_sR, gL_sI, gL_sR, gR_sI, gR_sL, sc_h H, sc_ao H, g7, w7, c1, c2, d1, d2, Int.toNat_natCast, es, c3, d3, c4, eq_false d4]
abbrev okSh (S : ST) (w : B64) : Prop := (mvs (rgV S (dR w)) ∧ vk (rgtV S w) = 1) ∨ (fC w = 0 ∧ vk (rgV S (dR w)) = 1 ∧ mvs (rgtV S w))
/-- what moving a place makes -/
def shfR (S : ST) (w : B64) (t : Int) : Int × VL × Int := if vk (rgV S (dR w)) = 1 then shfV (rgtV S w) (vn (rgV S (dR w))) (fC w) t else shfV (rgV S (dR w)) (vn (rgtV S w)) (fC w) t
theorem T250n (hc : fC w = 0 ∨ fC w = 16) (hn : ¬ okSh S w) (hb : ¬ (vk (rgV S (dR w)) = 1 ∧ vk (rgtV S w) = 1)) : MM 250 [mR (some 40), mI (b2 (fC w = 0)), mI (vk (rgV S (dR w))), mI (vk (rgtV S w))] σ = some (some (mI 4), σ) := by
  by_cases l1 : vk (rgV S (dR w)) = 1
  · have r1 : ¬ vk (rgtV S w) = 1 := fun z => hb ⟨l1, z⟩
    have ng : ¬ (fC w = 0 ∧ mvs (rgtV S w)) := fun z => hn (Or.inr ⟨z.1, l1, z.2⟩)
    by_cases m : mvs (rgtV S w)
    · have c0 : ¬ fC w = 0 := fun z => ng ⟨z, m⟩
      simp only [M250, e250_0, e250_10, e250_22, e250_29, Option.getD_some, Option.bind_some, Option.toList_some, Option.toList_none, List.cons_append, List.nil_append, and_self, and_true, true_and, false_and, and_false, ite_self, not_true_eq_false, not_false_eq_true, reduceIte, Nat.reduceEqDiff, ab_I, ab_L, ab_R, ao_I, ao_L, ao_R, gL_sL, gI_sI, gR_sR, gI_sL, gI_sR, gL_sI, gL_sR, gR_sI, gR_sL, l1, oneI, T245, b2_n', b2_0', eq_true m, c0]
    · simp only [M250, e250_0, e250_10, e250_22, e250_29, Option.getD_some, Option.bind_some, Option.toList_some, Option.toList_none, List.cons_append, List.nil_append, and_self, and_true, true_and, false_and, and_false, ite_self, not_true_eq_false, not_false_eq_true, reduceIte, Nat.reduceEqDiff, ab_I, ab_L, ab_R, ao_I, ao_L, ao_R, gL_sL, gI_sI, gR_sR, gI_sL, gI_sR, gL_sI, gL_sR, gR_sI, gR_sL, l1, oneI, T245, b2_n', b2_0', eq_false m]
  · by_cases m : mvs (rgV S (dR w))
    · have r1 : ¬ vk (rgtV S w) = 1 := fun z => hn (Or.inl ⟨m, z⟩)
      simp only [M250, e250_0, e250_10, e250_22, e250_29, e250_41, Option.getD_some, Option.bind_some, Option.toList_some, Option.toList_none, List.cons_append, List.nil_append, and_self, and_true, true_and, false_and, and_false, ite_self, not_true_eq_false, not_false_eq_true, reduceIte, Nat.reduceEqDiff, ab_I, ab_L, ab_R, ao_I, ao_L, ao_R, gL_sL, gI_sI, gR_sR, gI_sL, gI_sR, gL_sI, gL_sR, gR_sI, gR_sL, l1, T245, b2_n', b2_0', eq_true m, r1]
    · simp only [M250, e250_0, e250_10, e250_22, e250_29, Option.getD_some, Option.bind_some, Option.toList_some, Option.toList_none, List.cons_append, List.nil_append, and_self, and_true, true_and, false_and, and_false, ite_self, not_true_eq_false, not_false_eq_true, reduceIte, Nat.reduceEqDiff, ab_I, ab_L, ab_R, ao_I, ao_L, ao_R, gL_sL, gI_sI, gR_sR, gI_sL, gI_sR, gL_sI, gL_sR, gR_sI, gR_sL, l1, T245, b2_n', b2_0', eq_false m]
theorem sL_two {s1 s2 : Nat} {y : B64} {i : Int} : sL (sI (sL σ k s1 x) 40 8 i) k s2 y = sI (sL (sL σ k s1 x) k s2 y) 40 8 i := rfl
theorem T250 (H : SC σ k j E w) (hS : CSt σ k S) (P : PX S E t) (ht : gI σ 40 8 = t) (hd : fD w ≤ 9) (hs : rgt w → fS w ≤ 10) (hc : fC w = 0 ∨ fC w = 16) (hn : okSh S w) : okc (MM 250 [mR (some 40), mI (b2 (fC w = 0)), mI (vk (rgV S (dR w))), mI (vk (rgtV S w))] σ) (some (mI (shfR S w t).1)) (fun τ => spo σ τ k j (shfR S w t).1 (wV S (dR w) (shfR S w t).2.1) (gI σ 40 4) (shfR S w t).2.2) := by
  have F := PX_F P
  have sc := sc_c H
  obtain ⟨tn, htn⟩ : ∃ tn : Int, tn = b2 (vk (rgV S (dR w)) = 1) := ⟨_, rfl⟩
  have tn01 : tn = 0 ∨ tn = 1 := by rw [htn]; have := @b2_le (vk (rgV S (dR w)) = 1) inferInstance; omega
  have rR : vk (rgV S (dR w)) = 1 → rgt w := fun z => by
    rcases hn with q | q
    · have m : mvs (rgV S (dR w)) := q.1
      exfalso; omega
    · have m := q.2.2
      unfold rgtV at m
      by_cases r : rgt w
      · exact r
      · rw [if_neg r] at m
        have m : (1 : Int) = 3 ∨ (1 : Int) = 5 ∨ (1 : Int) = 7 ∨ (1 : Int) = 9 := m
        exfalso; omega
  -- the place and the number
  obtain ⟨r, hr⟩ : ∃ r, r = (if tn = 0 then dR w else sRr w) := ⟨_, rfl⟩
  obtain ⟨p, hp⟩ : ∃ p, p = rgV S r := ⟨_, rfl⟩
  obtain ⟨n, hnn⟩ : ∃ n : N6, n = (if tn = 0 then vn (rgtV S w) else vn (rgV S (dR w))) := ⟨_, rfl⟩
  have hsh : shfR S w t = shfV p n (fC w) t := by
    unfold shfR
    by_cases z : vk (rgV S (dR w)) = 1
    · have t1 : ¬ tn = 0 := by rw [htn, b2_yes z]; decide
      rw [if_pos z, hp, hr, hnn, if_neg t1, if_neg t1]
      congr 1
      unfold rgtV
      rw [if_pos (rR z)]
    · have t0 : tn = 0 := by rw [htn, b2_no z]
      rw [if_neg z, hp, hr, hnn, if_pos t0, if_pos t0]
  have pm : mvs p := by
    rw [hp, hr]
    by_cases z : vk (rgV S (dR w)) = 1
    · have t1 : ¬ tn = 0 := by rw [htn, b2_yes z]; decide
      rw [if_neg t1]
      rcases hn with q | q
      · have m : mvs (rgV S (dR w)) := q.1
        exfalso; omega
      · have m := q.2.2
        unfold rgtV at m
        rwa [if_pos (rR z)] at m
    · have t0 : tn = 0 := by rw [htn, b2_no z]
      rw [if_pos t0]
      rcases hn with q | q
      · exact q.1
      · exact absurd q.2.1 z
  have r10 : r ≤ 10 := by
    rw [hr]
    split
    · exact dR_10 (by omega)
    · rename_i z
      exact sR_10 (hs (rR (by
        by_cases y : vk (rgV S (dR w)) = 1
        · exact y
        · exact absurd (htn.trans (b2_no y)) z)))
  have tnc : tn = 1 → fC w = 0 := fun z => by
    rcases hn with q | q
    · have m : mvs (rgV S (dR w)) := q.1
      exfalso
      have : ¬ vk (rgV S (dR w)) = 1 := by omega
      rw [htn, b2_no this] at z
      omega
    · exact q.1
  obtain ⟨X, Y, t48, eX, eY⟩ := T248 H hS P (show fD w ≤ 10 by omega) hs
  have kd0 : ¬ vk (rgV S (dR w)) = 0 := by
    rcases hn with q | q
    · have m : mvs (rgV S (dR w)) := q.1
      omega
    · omega
  have ks0 : rgt w → ¬ vk (rgV S (sRr w)) = 0 := fun g => by
    have e : rgtV S w = rgV S (sRr w) := if_pos g
    rcases hn with q | q
    · rw [← e]; omega
    · have m : mvs (rgtV S w) := q.2.2
      rw [← e]; omega
  have eX := eX kd0
  have eY := eY ks0
  subst eX eY
  obtain ⟨σ1, hσ1⟩ : ∃ σ1, σ1 = wC (wC σ 42 (vn (rgV S (dR w)))) 43 (vn (rgtV S w)) := ⟨_, rfl⟩
  have q1 : nfq σ1 σ := by rw [hσ1]; exact nfq_t (nfq_w (by omega)) (nfq_w (by omega))
  rw [← hσ1] at t48
  obtain ⟨yk, hyk⟩ : ∃ yk : Nat, yk = (if tn = 0 then 43 else 42) := ⟨_, rfl⟩
  have ry : rC σ1 yk = n := by
    rw [hσ1, hyk, hnn]
    by_cases z : tn = 0
    · rw [if_pos z, if_pos z, rC_wC, if_pos rfl]
    · rw [if_neg z, if_neg z, rC_wC, if_neg (by decide), rC_wC, if_pos rfl]
  have ky : isNm σ1 yk := by rw [hyk]; split <;> rfl
  have nmy : 42 ≤ yk ∧ yk ≤ 43 := by rw [hyk]; split <;> omega
  have H1 := SC_n q1 H
  have S1 := CSt_n sc q1 hS
  have hmK : vk p = 3 ∨ vk p = 5 ∨ vk p = 7 ∨ vk p = 9 := pm
  -- up to the asking whether the number is constant
  have s80 : MM 250 [mR (some 40), mI (b2 (fC w = 0)), mI (vk (rgV S (dR w))), mI (vk (rgtV S w))] σ = RR (lkB tb250) (B250_80, [some (mR (some 40)), some (mI (b2 (fC w = 0))), some (mI (vk (rgV S (dR w)))), some (mI (vk (rgtV S w))), some (mI tn), some (mI (vk p)), some (mR (some yk)), none, none], [mI (b2 (isC n))], σ1) := by
    have g1 : gL σ1 yk 1 = jM n := by rw [← ry]; rfl
    have t69 := T69 (σ := σ1) ky
    rw [g1] at t69
    by_cases z : vk (rgV S (dR w)) = 1
    · have t1 : tn = 1 := by rw [htn, b2_yes z]
      have c0 := tnc t1
      have ey : yk = 42 := by rw [hyk, if_neg (by omega)]
      have ek : vk p = vk (rgtV S w) := by
        rw [hp, hr, if_neg (by omega)]
        unfold rgtV
        rw [if_pos (rR z)]
      have m : mvs (rgtV S w) := by
        show vk (rgtV S w) = 3 ∨ vk (rgtV S w) = 5 ∨ vk (rgtV S w) = 7 ∨ vk (rgtV S w) = 9
        rw [← ek]; exact hmK
      rw [ek, ey, t1]
      rw [ey] at t69
      simp only [M250, e250_0, e250_10, e250_22, e250_29, e250_41, e250_53, e250_57, e250_73, Option.getD_some, Option.bind_some, Option.toList_some, Option.toList_none, List.cons_append, List.nil_append, and_self, and_true, true_and, false_and, and_false, ite_self, not_true_eq_false, not_false_eq_true, reduceIte, Nat.reduceEqDiff, ab_I, ab_L, ab_R, ao_I, ao_L, ao_R, gL_sL, gI_sI, gR_sR, gI_sL, gI_sR, gL_sI, gL_sR, gR_sI, gR_sL, eq_true z, oneI, T245, b2_n', b2_0', eq_true m, c0, t48, aoR 42 (kc_42 _), t69, b2_yes trivial, Int.reduceEq]
    · have t0 : tn = 0 := by rw [htn, b2_no z]
      have ey : yk = 43 := by rw [hyk, if_pos t0]
      have ek : vk p = vk (rgV S (dR w)) := by rw [hp, hr, if_pos t0]
      have m : mvs (rgV S (dR w)) := by
        show vk (rgV S (dR w)) = 3 ∨ vk (rgV S (dR w)) = 5 ∨ vk (rgV S (dR w)) = 7 ∨ vk (rgV S (dR w)) = 9
        rw [← ek]; exact hmK
      have r1 : vk (rgtV S w) = 1 := by
        rcases hn with q | q
        · exact q.2
        · exact absurd q.2.1 z
      rw [ek, ey, t0]
      rw [ey] at t69
      simp only [M250, e250_0, e250_10, e250_22, e250_29, e250_41, e250_53, e250_57, e250_73, Option.getD_some, Option.bind_some, Option.toList_some, Option.toList_none, List.cons_append, List.nil_append, and_self, and_true, true_and, false_and, and_false, ite_self, not_true_eq_false, not_false_eq_true, reduceIte, Nat.reduceEqDiff, ab_I, ab_L, ab_R, ao_I, ao_L, ao_R, gL_sL, gI_sI, gR_sR, gI_sL, gI_sR, gL_sI, gL_sR, gR_sI, gR_sL, z, T245, b2_n', b2_0', eq_true m, eq_true r1, t48, aoR 43 (kc_43 _), t69]
  rw [s80, hsh]
  unfold shfV
  by_cases cn : isC n
  · rw [if_pos cn, b2_yes cn]
    obtain ⟨d, hdd⟩ : ∃ d, d = (if fC w = 0 then jV n else - jV n) := ⟨_, rfl⟩
    rw [← hdd]
    have gy : gL σ1 yk 0 = jV n := by rw [← ry]; rfl
    obtain ⟨τ, t51, q51⟩ := T251 (x := d) (tn := tn) (p := p) H1 S1 P hd (fun z => hs (rR (by
        by_cases y : vk (rgV S (dR w)) = 1
        · exact y
        · exfalso; rw [htn, b2_no y] at z; omega))) tn01 (by rw [hp, hr])
    have s : RR (lkB tb250) (B250_80, [some (mR (some 40)), some (mI (b2 (fC w = 0))), some (mI (vk (rgV S (dR w)))), some (mI (vk (rgtV S w))), some (mI tn), some (mI (vk p)), some (mR (some yk)), none, none], [mI 1], σ1) = some (some (mI (if d.toInt < -8192 ∨ 8192 < d.toInt ∨ vo p + d.toInt < -4096 ∨ 4096 < vo p + d.toInt then 5 else 0)), τ) := by
      by_cases c0 : fC w = 0
      · rw [if_pos c0] at hdd
        rw [hdd] at t51 ⊢
        simp only [e250_80, e250_104, e250_107, Option.getD_some, Option.bind_some, Option.toList_some, Option.toList_none, List.cons_append, List.nil_append, and_self, and_true, true_and, false_and, and_false, ite_self, not_true_eq_false, not_false_eq_true, reduceIte, Nat.reduceEqDiff, ab_I, ab_L, ab_R, ao_I, ao_L, ao_R, gL_sL, gI_sI, gR_sR, gI_sL, gI_sR, gL_sI, gL_sR, gR_sI, gR_sL, oneI, c0, b2_n', b2_0', aoN ky, gy, t51]
      · rw [if_neg c0] at hdd
        rw [hdd] at t51 ⊢
        simp only [e250_80, e250_104, e250_107, Option.getD_some, Option.bind_some, Option.toList_some, Option.toList_none, List.cons_append, List.nil_append, and_self, and_true, true_and, false_and, and_false, ite_self, not_true_eq_false, not_false_eq_true, reduceIte, Nat.reduceEqDiff, ab_I, ab_L, ab_R, ao_I, ao_L, ao_R, gL_sL, gI_sI, gR_sR, gI_sL, gI_sR, gL_sI, gL_sR, gR_sI, gR_sL, oneI, c0, b2_n', b2_0', aoN ky, gy, t51]
    rw [s]
    by_cases bd : d.toInt < -8192 ∨ 8192 < d.toInt ∨ vo p + d.toInt < -4096 ∨ 4096 < vo p + d.toInt
    · rw [if_pos bd] at q51 ⊢
      rw [if_pos bd]
      subst q51
      exact okc_s (spo_f (by show ¬ (5 : Int) = 0; decide) (sfq_n q1))
    · rw [if_neg bd] at q51 ⊢
      rw [if_neg bd]
      have := spo_w (j := j) H hS F (show dR w ≤ 9 by have := dR_9 hd; omega) q1 q51
      rw [ht] at this
      exact okc_s this
  · rw [if_neg cn, b2_no cn]
    by_cases bad : ¬ fC w = 0 ∨ vk p = 3
    · rw [if_pos bad]
      refine okc_o (τ := σ1) ?_ (spo_f (by show ¬ (4 : Int) = 0; decide) (sfq_n q1))
      by_cases c0 : fC w = 0
      · have k3 : vk p = 3 := bad.resolve_left (not_not_intro c0)
        simp only [e250_80, Option.getD_some, Option.bind_some, Option.toList_some, Option.toList_none, List.cons_append, List.nil_append, and_self, and_true, true_and, false_and, and_false, ite_self, not_true_eq_false, not_false_eq_true, reduceIte, Nat.reduceEqDiff, ab_I, ab_L, ab_R, ao_I, ao_L, ao_R, gL_sL, gI_sI, gR_sR, gI_sL, gI_sR, gL_sI, gL_sR, gR_sI, gR_sL, c0, b2_n', b2_0', k3]
      · simp only [e250_80, Option.getD_some, Option.bind_some, Option.toList_some, Option.toList_none, List.cons_append, List.nil_append, and_self, and_true, true_and, false_and, and_false, ite_self, not_true_eq_false, not_false_eq_true, reduceIte, Nat.reduceEqDiff, ab_I, ab_L, ab_R, ao_I, ao_L, ao_R, gL_sL, gI_sI, gR_sR, gI_sL, gI_sR, gL_sI, gL_sR, gR_sI, gR_sL, c0, b2_n', b2_0']
    · rw [if_neg bad]
      have c0 : fC w = 0 := Classical.byContradiction fun z => bad (Or.inl z)
      have k3 : ¬ vk p = 3 := fun z => bad (Or.inr z)
      have kp0 : ¬ vk p = 0 := by omega
      have pa := cAt_rg S1 F.1 r10
      rw [← hp] at pa
      have l := pR_lt F r10
      have ld := pR_lt F (dR_10 (show fD w ≤ 10 by omega))
      have s136 : RR (lkB tb250) (B250_80, [some (mR (some 40)), some (mI (b2 (fC w = 0))), some (mI (vk (rgV S (dR w)))), some (mI (vk (rgtV S w))), some (mI tn), some (mI (vk p)), some (mR (some yk)), none, none], [mI 0], σ1) = RR (lkB tb250) (B250_136, [some (mR (some 40)), some (mI (b2 (fC w = 0))), some (mI (vk (rgV S (dR w)))), some (mI (vk (rgtV S w))), some (mI tn), some (mI (vk p)), some (mR (some yk)), none, none], [mI ((pR S r : Nat) : Int)], σ1) := by
        rcases tn01 with z | z
        · rw [hr, if_pos z]
          simp only [e250_80, Option.getD_some, Option.bind_some, Option.toList_some, Option.toList_none, List.cons_append, List.nil_append, and_self, and_true, true_and, false_and, and_false, ite_self, not_true_eq_false, not_false_eq_true, reduceIte, Nat.reduceEqDiff, ab_I, ab_L, ab_R, ao_I, ao_L, ao_R, gL_sL, gI_sI, gR_sR, gI_sL, gI_sR, gL_sI, gL_sR, gR_sI, gR_sL, c0, b2_n', b2_0', k3, z, T241 H1 S1 F (show fD w ≤ 10 by omega)]
        · have nz : ¬ tn = 0 := by omega
          have g : rgt w := rR (by
            by_cases y : vk (rgV S (dR w)) = 1
            · exact y
            · exfalso; rw [htn, b2_no y] at z; omega)
          rw [hr, if_neg nz]
          simp only [e250_80, e250_129, Option.getD_some, Option.bind_some, Option.toList_some, Option.toList_none, List.cons_append, List.nil_append, and_self, and_true, true_and, false_and, and_false, ite_self, not_true_eq_false, not_false_eq_true, reduceIte, Nat.reduceEqDiff, ab_I, ab_L, ab_R, ao_I, ao_L, ao_R, gL_sL, gI_sI, gR_sR, gI_sL, gI_sR, gL_sI, gL_sR, gR_sI, gR_sL, c0, b2_n', b2_0', k3, nz, T242 H1 S1 F (hs g)]
      have ne44 : ¬ k + 1 + 0 = 44 := by omega
      have t67 := T67 (σ := σ1) (k := 44) (r := k + 1 + 0) (a := pR S r) (L := 1188) (kc_44 _) (sc_k H1).2.1 ne44 (by omega) (by decide)
      rw [rd_row pa kp0] at t67
      obtain ⟨σ2, hσ2⟩ : ∃ σ2, σ2 = wC σ1 44 (vn p) := ⟨_, rfl⟩
      have q2 : nfq σ2 σ1 := by rw [hσ2]; exact nfq_w (by omega)
      rw [← hσ2] at t67
      have ry2 : rC σ2 yk = n := by rw [hσ2, rC_wC, if_neg (by omega), ry]
      have r44 : rC σ2 44 = vn p := by rw [hσ2, rC_wC, if_pos rfl]
      have ky2 : isNm σ2 yk := by rw [hσ2]; exact ky
      have t78 := T78 (σ := σ2) (k := 45) (j := 44) (i := yk) (kc_45 _) (kc_44 _) ky2 (by decide) (by omega)
      rw [r44, ry2] at t78
      have t73 := T73n (σ := σ2) (k := 45) (n := addN (vn p) n) (kc_45 _)
      obtain ⟨m, hm⟩ : ∃ m, m = tdN (addN (vn p) n) := ⟨_, rfl⟩
      rw [← hm] at t73 ⊢
      obtain ⟨σ3, hσ3⟩ : ∃ σ3, σ3 = wC σ2 45 m := ⟨_, rfl⟩
      have q3 : nfq σ3 σ := by rw [hσ3]; exact nfq_t (nfq_w (by omega)) (nfq_t q2 q1)
      rw [← hσ3] at t73
      have g45 : gL σ3 45 3 = jB m := by rw [hσ3]; exact gC3
      have r45 : rC σ3 45 = m := by rw [hσ3, rC_wC, if_pos rfl]
      have e65 : iL 65535 = 65535#64 := rfl
      rw [s136]
      by_cases big : 65535#64 < jB m
      · rw [if_pos big]
        refine okc_o (τ := σ3) ?_ (spo_f (by show ¬ (5 : Int) = 0; decide) (sfq_n q3))
        simp only [e250_136, e250_154, e250_167, e250_174, e250_188, Option.getD_some, Option.bind_some, Option.toList_some, Option.toList_none, List.cons_append, List.nil_append, and_self, and_true, true_and, false_and, and_false, ite_self, not_true_eq_false, not_false_eq_true, reduceIte, Nat.reduceEqDiff, ab_I, ab_L, ab_R, ao_I, ao_L, ao_R, gL_sL, gI_sI, gR_sR, gI_sL, gI_sR, gL_sI, gL_sR, gR_sI, gR_sL, sc_h H1, sc_ao H1, t67, t78, t73, T17, g45, e65, b2_0', not_true_eq_false, eq_true big]
      · rw [if_neg big]
        have H3 := SC_n q3 H
        have S3 := CSt_n sc q3 hS
        have pa3 := cAt_rg S3 F.1 r10
        rw [← hp] at pa3
        obtain ⟨τ1, t16, q16⟩ := T216 (a := pR S r) (b := pR S (dR w)) (sc_k H3) l ld pa3
        have H4 := SC_q (sfq_v (j := j) q16) H3
        have r45' : rC τ1 45 = m := by
          rw [← r45]
          have g : ∀ s, gL τ1 45 s = gL σ3 45 s := fun s => q16.2.1 _ _ (by omega)
          unfold rC
          rw [g, g, g, g, g, g]
        have t68 := T68 (σ := τ1) (k := 45) (r := k + 1 + 0) (a := pR S (dR w)) (L := 1188) (kc_45 _) (sc_k H4).2.1 (by omega) (by omega) (by decide)
        rw [r45'] at t68
        have qn := cx_num (n := m) q16 kp0
        obtain ⟨τ2, hτ2⟩ : ∃ τ2, τ2 = wRN τ1 (k + 1 + 0) (pR S (dR w)) m := ⟨_, rfl⟩
        rw [← hτ2] at t68 qn
        have H5 := SC_q (sfq_v (j := j) qn) H3
        have nf : ¬ 65535#64 < jB m := big
        by_cases k7 : vk p = 7
        · rw [if_pos k7]
          have l9 : pR S (dR w) + 9 < 1188 := by omega
          have l10 : pR S (dR w) + 10 < 1188 := by omega
          have m9 : pR S (dR w) + 9 < 100000 := by omega
          have m10 : pR S (dR w) + 10 < 100000 := by omega
          have wt : w32 (t + 1) = t + 1 := w32_i (by have := P.1.2.2.2.2.2.2; omega) (by have := P.2.2.2; omega)
          have d9 : dR w ≤ 9 := by have := dR_9 hd; omega
          have d10 : fD w ≤ 10 := by omega
          have w9 : w32 (((pR S (dR w) : Nat) : Int) + 9) = ((pR S (dR w) + 9 : Nat) : Int) := w_pl (c := 9) m9
          have w10 : w32 (((pR S (dR w) : Nat) : Int) + 10) = ((pR S (dR w) + 10 : Nat) : Int) := w_pl (c := 10) m10
          have g9 := gSt (sc_k H5) l9
          have q9 := cx_9 (o := 0) qn kp0
          have H6 := SC_q (sfq_v (j := j) q9) H3
          have tg : gI (sL τ2 (k + 1 + 0) (pR S (dR w) + 9) (BitVec.ofNat 64 0)) 40 8 = t := by
            have := q9.1 40 8
            rw [show gI (sL τ2 (k + 1 + 0) (pR S (dR w) + 9) (BitVec.ofNat 64 0)) 40 8 = gI σ3 40 8 from this, q3.1, ht]
          have q10 := cx_10 (o := t + 1) q9
          have tt : MM 252 [mR (some 40)] (sL τ2 (k + 1 + 0) (pR S (dR w) + 9) (BitVec.ofNat 64 0)) = some (some (mI (t + 1)), sI (sL τ2 (k + 1 + 0) (pR S (dR w) + 9) (BitVec.ofNat 64 0)) 40 8 (t + 1)) := by
            rw [T252, tg, wt]
          have h6 : gR (sL τ2 (k + 1 + 0) (pR S (dR w) + 9) (BitVec.ofNat 64 0)) 40 1 = some k := sc_h H6
          have a6 : ao (sL τ2 (k + 1 + 0) (pR S (dR w) + 9) (BitVec.ofNat 64 0)) 8 (some k) = True := sc_ao H6
          have g10 := gSt (sc_k H5) l10
          refine okc_o (τ := sL (sI (sL τ2 (k + 1 + 0) (pR S (dR w) + 9) (BitVec.ofNat 64 0)) 40 8 (t + 1)) (k + 1 + 0) (pR S (dR w) + 10) (iL (t + 1))) ?_ ?_
          · simp only [e250_136, e250_154, e250_167, e250_174, e250_188, e250_197, e250_210, e250_226, e250_263, Option.getD_some, Option.bind_some, Option.toList_some, Option.toList_none, List.cons_append, List.nil_append, and_self, and_true, true_and, false_and, and_false, ite_self, not_true_eq_false, not_false_eq_true, reduceIte, Nat.reduceEqDiff, ab_I, ab_L, ab_R, ao_I, ao_L, ao_R, gL_sL, gI_sI, gR_sR, gI_sL, gI_sR, gL_sI, gL_sR, gR_sI, gR_sL, sc_h H1, sc_ao H1, t67, t78, t73, T17, g45, e65, b2_0', eq_false nf, T241 H3 S3 F d10, sc_h H3, sc_ao H3, t16, sc_h H4, sc_ao H4, t68, k7, sc_h H5, sc_ao H5, w9, g9, Int.toNat_natCast, h6, a6, tt, w10, g10]
          · rw [sL_two]
            have sp := spo_w (j := j) H hS F d9 q3 q10
            refine ⟨sfq_t (sfq_i (by omega)) sp.1, fun z => ?_⟩
            obtain ⟨y1, y2, y3, y4⟩ := sp.2 z
            refine ⟨CSt_i sc y1, ?_, ?_, ?_⟩
            · rw [gI_sI, if_neg (by omega)]; exact y2
            · rw [gI_sI, if_neg (by omega)]; exact y3
            · rw [gI_sI, if_pos ⟨rfl, rfl⟩]
        · rw [if_neg k7]
          refine okc_o (τ := τ2) ?_ ?_
          · simp only [e250_136, e250_154, e250_167, e250_174, e250_188, e250_197, e250_210, e250_226, Option.getD_some, Option.bind_some, Option.toList_some, Option.toList_none, List.cons_append, List.nil_append, and_self, and_true, true_and, false_and, and_false, ite_self, not_true_eq_false, not_false_eq_true, reduceIte, Nat.reduceEqDiff, ab_I, ab_L, ab_R, ao_I, ao_L, ao_R, gL_sL, gI_sI, gR_sR, gI_sL, gI_sR, gL_sI, gL_sR, gR_sI, gR_sL, sc_h H1, sc_ao H1, t67, t78, t73, T17, g45, e65, b2_0', eq_false nf, T241 H3 S3 F (show fD w ≤ 10 by omega), sc_h H3, sc_ao H3, t16, sc_h H4, sc_ao H4, t68, k7]
          · have := spo_w (j := j) H hS F (show dR w ≤ 9 by have := dR_9 hd; omega) q3 qn
            rw [ht] at this
            exact this
end CAL2
