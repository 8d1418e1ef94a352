/-! ===== the reference's judge: a comparison of numbers ===== -/
theorem equ_3 (x y : N6) : equN x y = 1 ∨ equN x y = 0 ∨ equN x y = -1 := by
  unfold equN
  split
  · exact Or.inl rfl
  · split
    · exact Or.inr (Or.inl rfl)
    · exact Or.inr (Or.inr rfl)
theorem abo_3 (x y : N6) : aboN x y = 1 ∨ aboN x y = 0 ∨ aboN x y = -1 := by
  unfold aboN
  split
  · exact Or.inl rfl
  · split
    · exact Or.inr (Or.inl rfl)
    · exact Or.inr (Or.inr rfl)
theorem nbl_3 (x y : N6) : nblN x y = 1 ∨ nblN x y = 0 ∨ nblN x y = -1 := by
  unfold nblN
  split
  · exact Or.inl rfl
  · split
    · exact Or.inr (Or.inl rfl)
    · exact Or.inr (Or.inr rfl)
theorem abs_3 (x y : N6) : aboS x y = 1 ∨ aboS x y = 0 ∨ aboS x y = -1 := by
  unfold aboS
  split
  · exact Or.inl rfl
  · split
    · exact Or.inr (Or.inl rfl)
    · exact Or.inr (Or.inr rfl)
theorem nbs_3 (x y : N6) : nblS x y = 1 ∨ nblS x y = 0 ∨ nblS x y = -1 := by
  unfold nblS
  split
  · exact Or.inl rfl
  · split
    · exact Or.inr (Or.inl rfl)
    · exact Or.inr (Or.inr rfl)
theorem dex_3 (c : Int) (x y : N6) : decX c x y = 1 ∨ decX c x y = 0 ∨ decX c x y = -1 := by
  have a := equ_3 x y
  unfold decX
  split
  · exact a
  · split
    · split <;> omega
    · split
      · split
        · exact Or.inl rfl
        · split
          · exact Or.inr (Or.inl rfl)
          · exact Or.inr (Or.inr rfl)
      · repeat' split
        all_goals first | exact abo_3 _ _ | exact nbl_3 _ _ | exact abs_3 _ _ | exact nbs_3 _ _
theorem dec_3 (c : Int) (w : Bool) (x y : N6) : decN c w x y = 1 ∨ decN c w x y = 0 ∨ decN c w x y = -1 := by
  unfold decN
  split
  · exact dex_3 _ _ _
  · split
    · split
      · split
        · exact Or.inl rfl
        · exact Or.inr (Or.inl rfl)
      · exact Or.inr (Or.inr rfl)
    · exact dex_3 _ _ _
theorem tdN_num {v : VL} (h : v = numV (vn v)) (n : N6) : vN v n = numV n := by rw [h]; rfl
section NUMB
variable {w : B64} {S : ST} {E : EV} {t g : Int} {σ τ ρ : MS} {N l m d y : Nat} {K : Nat → KT}
/-- where the sides stand -/
def nH (S : ST) (w : B64) (ρ : MS) (d y : Nat) : Prop := (d = 26 * (sF S - 1) + dR w ∧ dR w ≤ 9) ∧ (aV ρ d = numV (vn (rgV S (dR w))) ∧ aV ρ y = numV (vn (sidJ S w))) ∧ (if rgt w then y = 26 * (sF S - 1) + sRr w ∧ sRr w ≤ 9 else y = 32657)
theorem nw_J {c : Int} {is : Bool} (hF : 1 ≤ sF S ∧ sF S ≤ 4) (j : J0 ρ S) (h : nH S w ρ d y) (hne : ¬ (rgt w ∧ fD w = fS w)) {p : N6 × N6} (hp : p = (tdN (narN c is (vn (rgV S (dR w))) (vn (sidJ S w))).1, tdN (narN c is (vn (rgV S (dR w))) (vn (sidJ S w))).2)) : J0 (wn2 ρ d y p) (nrwS S w c is (vn (rgV S (dR w))) (vn (sidJ S w))) := by
  obtain ⟨⟨h1, h2⟩, ⟨h3, h4⟩, h5⟩ := h
  have j1 := J0_wV (k := d) (v := numV p.1) hF.2 j
  have e1 : vN (aV ρ d) p.1 = numV p.1 := by rw [h3]; rfl
  unfold wn2
  rw [e1]
  unfold nrwS
  by_cases r : rgt w
  · rw [if_pos r] at h5
    rw [if_pos r, hp] at *
    have nd : ¬ y = d := fun e => by
      apply hne
      refine ⟨r, ?_⟩
      have f := fld_rng w
      have f1 := f.2.1.1
      have f2 := f.2.2.1.1
      unfold dR at h1
      unfold sRr at h5
      omega
    have e2 : vN (aV ρ y) (tdN (narN c is (vn (rgV S (dR w))) (vn (sidJ S w))).2) = numV (tdN (narN c is (vn (rgV S (dR w))) (vn (sidJ S w))).2) := by rw [h4]; rfl
    rw [e2]
    have j2 := J0_wV (k := y) (v := numV (tdN (narN c is (vn (rgV S (dR w))) (vn (sidJ S w))).2)) (by exact hF.2) j1
    rw [h1, h5.1] at j2 ⊢
    exact j2
  · rw [if_neg r] at h5
    rw [if_neg r, hp] at *
    have := JSt_sq (sqc_w (i := y) (σ := wrV ρ d (numV (tdN (narN c is (vn (rgV S (dR w))) (vn (sidJ S w))).1))) (v := vN (aV ρ y) (tdN (narN c is (vn (rgV S (dR w))) (vn (sidJ S w))).2)) (by omega)) (by omega) (by exact hF.2) j1
    rw [h1] at this ⊢
    exact this
theorem nw_q {p : N6 × N6} (hd : jR d) (hy : jR y) : jq (wn2 ρ d y p) ρ := jq_t (jq_w hy) (jq_w hd)
theorem nw_80 {p : N6 × N6} {s : Nat} : gI (wn2 ρ d y p) 80 s = gI ρ 80 s := by
  unfold wn2
  rw [gW80, gW80]
/-- both ways are gone with what is known of them -/
theorem L516p (h : HJ σ S E t N K l m) {SN SY : ST} (jn : J0 ρ SN) (jy : JSt ρ 313 SY) (kn : kst SN) (ky : kst SY) (q : jq ρ σ) (o : ∀ s, ¬ (s = 102 ∨ s = 103) → gI ρ 80 s = gI σ 80 s) {x3 x4 x6 x7 x8 x9 x10 x11 x12 : Int} : okc (RR (lkB tb516) (B516_276, [some (mR (some 80)), some (mL w), none, some (mI x3), some (mI x4), some (mI g), some (mI x6), some (mI x7), some (mI x8), some (mI x9), some (mI x10), some (mI x11), some (mI x12), some (mI 1), none, none], [mI 1], ρ)) none (fun τ => if gI σ 80 78 = 60 then gI τ 80 90 = 12 ∧ jq τ σ else jpt σ τ SN SY (gI σ 80 88) g t) := by
  have h' := h
  obtain ⟨⟨h1, h2, h3, h4⟩, ⟨h5, h6, h7⟩, ⟨h8, h9, h10⟩, ⟨h11, h12⟩, ⟨h13, h14⟩, h15⟩ := h'
  have f4 := JSt_4 kn.1.2 kn.2.1 jn
  have t1 := T468s (σ := ρ) (x := 0) (y := 251) (by omega) (by omega) (by omega) kn jn
  have c1 : JSt (cpS ρ 0 251) 251 SN := cp_J (by omega) (by omega) (by omega) kn.1 kn.2.1 jn
  have c3 : JSt (cpS ρ 0 251) 313 SY := cp_o f4 (by omega) ky.1.2 ky.2.1 jy
  have cq : jq (cpS ρ 0 251) ρ := cp_jq f4 (Or.inr (Or.inl rfl))
  have c80 : ∀ s, gI (cpS ρ 0 251) 80 s = gI ρ 80 s := fun s => cp_I f4 (by omega)
  generalize e1 : cpS ρ 0 251 = ρ1 at *
  have t2 := T468s (σ := ρ1) (x := 313) (y := 0) (by omega) (by omega) (by omega) ky c3
  have f5 := JSt_4 ky.1.2 ky.2.1 c3
  have d0 : J0 (cpS ρ1 313 0) SY := cp_J (by omega) (by omega) (by omega) ky.1 ky.2.1 c3
  have d1 : JSt (cpS ρ1 313 0) 251 SN := cp_o f5 (by omega) kn.1.2 kn.2.1 c1
  have dq : jq (cpS ρ1 313 0) ρ1 := cp_jq f5 (Or.inl rfl)
  have d80 : ∀ s, gI (cpS ρ1 313 0) 80 s = gI ρ1 80 s := fun s => cp_I f5 (by omega)
  generalize e2 : cpS ρ1 313 0 = ρ2 at *
  have qq : jq ρ2 σ := jq_t dq (jq_t cq q)
  have o2 : ∀ s, ¬ (s = 102 ∨ s = 103) → gI ρ2 80 s = gI σ 80 s := fun s hs => by rw [d80, c80, o s hs]
  have u1 : MM 468 [mR (some 80), mI 0, mI 251] ρ = some (none, ρ1) := by rw [← e1]; rw [← e1] at t1; exact t1
  have u2 : MM 468 [mR (some 80), mI 313, mI 0] ρ1 = some (none, ρ2) := t2
  by_cases e60 : m = 60
  · have e : gI ρ2 80 78 = 60 := by rw [o2 _ (by decide), h13, e60]; rfl
    rw [show (fun τ => if gI σ 80 78 = 60 then gI τ 80 90 = 12 ∧ jq τ σ else jpt σ τ SN SY (gI σ 80 88) g t) = fun τ => gI τ 80 90 = 12 ∧ jq τ σ from funext fun τ => if_pos (by rw [h13, e60]; rfl)]
    have j1f : JSt (flt ρ2 12) 251 SN := JSt_flt d1
    have t3 := T468s (σ := flt ρ2 12) (x := 251) (y := 0) (by omega) (by omega) (by omega) kn j1f
    have u3 : MM 468 [mR (some 80), mI 251, mI 0] (flt ρ2 12) = some (none, cpS (flt ρ2 12) 251 0) := t3
    have f6 := JSt_4 kn.1.2 kn.2.1 j1f
    simp only [e516_276, e516_296, e516_304, e516_310, e516_320, Option.getD_some, Option.bind_some, Option.toList_some, Option.toList_none, List.cons_append, List.nil_append, and_self, and_true, true_and, false_and, and_false, ite_self, not_true_eq_false, not_false_eq_true, reduceIte, Nat.reduceEqDiff, ab_I, ab_L, ab_R, ao_I, ao_L, ao_R, gL_sL, gI_sI, gR_sR, gI_sL, gI_sR, gL_sI, gL_sR, gR_sI, gR_sL, oneI, u1, u2, T514f e, u3]
    refine okc_s ⟨?_, jq_t (cp_jq f6 (Or.inl rfl)) (jq_t jq_f qq)⟩
    rw [cp_I f6 (by omega), fl_g, o2 _ (by decide), h5, fst0]
  · rw [show (fun τ => if gI σ 80 78 = 60 then gI τ 80 90 = 12 ∧ jq τ σ else jpt σ τ SN SY (gI σ 80 88) g t) = fun τ => jpt σ τ SN SY (gI σ 80 88) g t from funext fun τ => if_neg (by rw [h13]; omega)]
    obtain ⟨p1, p2, p3, p4, p5⟩ := prt_2 (g := g) h (by omega) qq d0 ky d1 kn
    simp only [e516_276, e516_296, e516_304, e516_310, e516_320, Option.getD_some, Option.bind_some, Option.toList_some, Option.toList_none, List.cons_append, List.nil_append, and_self, and_true, true_and, false_and, and_false, ite_self, not_true_eq_false, not_false_eq_true, reduceIte, Nat.reduceEqDiff, ab_I, ab_L, ab_R, ao_I, ao_L, ao_R, gL_sL, gI_sI, gR_sR, gI_sL, gI_sR, gL_sI, gL_sR, gR_sI, gR_sL, oneI, u1, u2, p1, p2]
    refine okc_s ⟨ρ2, qq, by rw [o2 _ (by decide), h5], d0, ky, p4, ?_, p3, ?_, ?_, ?_⟩
    · rw [p5 90 (by omega), o2 _ (by decide), h5]
    · rw [p5 88 (by omega), o2 _ (by decide)]
    · rw [p5 89 (by omega), o2 _ (by decide)]
    · rw [p5 85 (by omega), o2 _ (by decide), h6]
theorem nH_w (h : nH S w σ d y) {i : Nat} {v : VL} (hi : 32658 ≤ i) (hF : sF S ≤ 4) : nH S w (wrV σ i v) d y := by
  obtain ⟨h1, ⟨h3, h4⟩, h5⟩ := h
  have ny : y ≤ 32657 := by split at h5 <;> omega
  exact ⟨h1, ⟨by rw [aV_ne (by omega), h3], by rw [aV_ne (by omega), h4]⟩, h5⟩
set_option maxHeartbeats 2000000 in
theorem kn (n : N6) : -128 ≤ vk (numV n) ∧ vk (numV n) < 128 := ⟨show (-128 : Int) ≤ 1 by decide, show (1 : Int) < 128 by decide⟩
/-- the sides aren't decided -/
theorem L516 (h : HJ σ S E t N K l m) (hw : isCmp (fC w)) (q : sqc ρ σ) (n : nH S w ρ d y) (hd : decN (fC w) (decide (widJ w)) (vn (rgV S (dR w))) (vn (sidJ S w)) = -1) {x9 : Int} : okc (RR (lkB tb516) (B516_42, [some (mR (some 80)), some (mL w), none, some (mI (fC w)), some (mI (b2 (widJ w))), some (mI g), some (mI (b2 (rgt w))), some (mI (d : Int)), some (mI (y : Int)), none, none, none, none, none, none, none], [mI (-1)], ρ)) none (fun τ => jwo σ τ N K l (numJ S w g (gI σ 80 88) t)) := by
  have h' := h
  obtain ⟨⟨h1, h2, h3, h4⟩, ⟨h5, h6, h7⟩, ⟨h8, h9, h10⟩, ⟨h11, h12⟩, ⟨h13, h14⟩, h15⟩ := h'
  have k0 := kst_of h2
  have hF := h2.1
  have n' := n
  obtain ⟨⟨n1, n2⟩, ⟨n3, n4⟩, n5⟩ := n'
  have ny : jR y ∧ (y < 104 ∨ y = 32657) := by split at n5 <;> omega
  have nd : jR d ∧ d < 104 := by omega
  have id : inB (d : Int) := ⟨by omega, by omega⟩
  have iy : inB (y : Int) := ⟨by omega, by omega⟩
  have o : ∀ s, ¬ (s = 102 ∨ s = 103) → gI ρ 80 s = gI σ 80 s := fun s hs => sqc_I q (by omega) (by omega)
  have j := JSt_sq q (by omega) hF.2 h1
  -- the first flag: one register
  have same : RR (lkB tb516) (B516_42, [some (mR (some 80)), some (mL w), none, some (mI (fC w)), some (mI (b2 (widJ w))), some (mI g), some (mI (b2 (rgt w))), some (mI (d : Int)), some (mI (y : Int)), none, none, none, none, none, none, none], [mI (-1)], ρ) = RR (lkB tb516) (B516_90, [some (mR (some 80)), some (mL w), none, some (mI (fC w)), some (mI (b2 (widJ w))), some (mI g), some (mI (b2 (rgt w))), some (mI (d : Int)), some (mI (y : Int)), some (mI (-1)), none, none, none, none, none, none], [mI (b2 (rgt w ∧ fD w = fS w))], ρ) := by
    by_cases r : rgt w
    · by_cases e : fD w = fS w
      · rw [b2_yes r, b2_yes (p := rgt w ∧ fD w = fS w) ⟨r, e⟩]
        simp only [e516_42, e516_78, e516_82, Option.getD_some, Option.bind_some, Option.toList_some, Option.toList_none, List.cons_append, List.nil_append, and_self, and_true, true_and, false_and, and_false, ite_self, not_true_eq_false, not_false_eq_true, reduceIte, Nat.reduceEqDiff, ab_I, ab_L, ab_R, ao_I, ao_L, ao_R, gL_sL, gI_sI, gR_sR, gI_sL, gI_sR, gL_sI, gL_sR, gR_sI, gR_sL, oneI, Int.reduceLT, Int.reduceNeg, T333, T334, e]
      · rw [b2_yes r, b2_no (p := rgt w ∧ fD w = fS w) (fun z => e z.2)]
        simp only [e516_42, e516_78, e516_82, e516_89, Option.getD_some, Option.bind_some, Option.toList_some, Option.toList_none, List.cons_append, List.nil_append, and_self, and_true, true_and, false_and, and_false, ite_self, not_true_eq_false, not_false_eq_true, reduceIte, Nat.reduceEqDiff, ab_I, ab_L, ab_R, ao_I, ao_L, ao_R, gL_sL, gI_sI, gR_sR, gI_sL, gI_sR, gL_sI, gL_sR, gR_sI, gR_sL, oneI, Int.reduceLT, Int.reduceNeg, T333, T334, e]
    · rw [b2_no r, b2_no (p := rgt w ∧ fD w = fS w) (fun z => r z.1)]
      simp only [e516_42, e516_89, Option.getD_some, Option.bind_some, Option.toList_some, Option.toList_none, List.cons_append, List.nil_append, and_self, and_true, true_and, false_and, and_false, ite_self, not_true_eq_false, not_false_eq_true, reduceIte, Nat.reduceEqDiff, ab_I, ab_L, ab_R, ao_I, ao_L, ao_R, gL_sL, gI_sI, gR_sR, gI_sL, gI_sR, gL_sI, gL_sR, gR_sI, gR_sL, Int.reduceLT, Int.reduceNeg]
  have sgn : ∀ z : Int, RR (lkB tb516) (B516_90, [some (mR (some 80)), some (mL w), none, some (mI (fC w)), some (mI (b2 (widJ w))), some (mI g), some (mI (b2 (rgt w))), some (mI (d : Int)), some (mI (y : Int)), some (mI (-1)), none, none, none, none, none, none], [mI z], ρ) = RR (lkB tb516) (B516_123, [some (mR (some 80)), some (mL w), none, some (mI (fC w)), some (mI (b2 (widJ w))), some (mI g), some (mI (b2 (rgt w))), some (mI (d : Int)), some (mI (y : Int)), some (mI (-1)), some (mI z), none, none, none, none, none], [mI (b2 (isSgn (fC w)))], ρ) := fun z => by
    by_cases s : isSgn (fC w)
    · rw [b2_yes s]
      rcases s with s | s | s | s <;> simp only [e516_90, e516_118, Option.getD_some, Option.bind_some, Option.toList_some, Option.toList_none, List.cons_append, List.nil_append, and_self, and_true, true_and, false_and, and_false, ite_self, not_true_eq_false, not_false_eq_true, reduceIte, Nat.reduceEqDiff, ab_I, ab_L, ab_R, ao_I, ao_L, ao_R, gL_sL, gI_sI, gR_sR, gI_sL, gI_sR, gL_sI, gL_sR, gR_sI, gR_sL, s, Int.reduceEq]
    · rw [b2_no s]
      have s1 : ¬ fC w = 96 := fun e => s (Or.inl e)
      have s2 : ¬ fC w = 112 := fun e => s (Or.inr (Or.inl e))
      have s3 : ¬ fC w = 192 := fun e => s (Or.inr (Or.inr (Or.inl e)))
      have s4 : ¬ fC w = 208 := fun e => s (Or.inr (Or.inr (Or.inr e)))
      simp only [e516_90, e516_118, Option.getD_some, Option.bind_some, Option.toList_some, Option.toList_none, List.cons_append, List.nil_append, and_self, and_true, true_and, false_and, and_false, ite_self, not_true_eq_false, not_false_eq_true, reduceIte, Nat.reduceEqDiff, ab_I, ab_L, ab_R, ao_I, ao_L, ao_R, gL_sL, gI_sI, gR_sR, gI_sL, gI_sR, gL_sI, gL_sR, gR_sI, gR_sL, s1, s2, s3, s4]
  have eX : gL ρ 115 d = jB (vn (rgV S (dR w))) := by rw [q115, n3]; rfl
  have eY : gL ρ 115 y = jB (vn (sidJ S w)) := by rw [q115, n4]; rfl
  have nar : RR (lkB tb516) (B516_123, [some (mR (some 80)), some (mL w), none, some (mI (fC w)), some (mI (b2 (widJ w))), some (mI g), some (mI (b2 (rgt w))), some (mI (d : Int)), some (mI (y : Int)), some (mI (-1)), some (mI (b2 (rgt w ∧ fD w = fS w))), none, none, none, none, none], [mI (b2 (isSgn (fC w)))], ρ) = RR (lkB tb516) (B516_177, [some (mR (some 80)), some (mL w), none, some (mI (fC w)), some (mI (b2 (widJ w))), some (mI g), some (mI (b2 (rgt w))), some (mI (d : Int)), some (mI (y : Int)), some (mI (-1)), some (mI (b2 (rgt w ∧ fD w = fS w))), some (mI (b2 (isSgn (fC w)))), none, none, none, none], [mI (b2 (¬ ((rgt w ∧ fD w = fS w) ∨ ¬ (widJ w ∨ ¬ isSgn (fC w) ∧ ¬ cF < jB (vn (rgV S (dR w))) ∧ ¬ cF < jB (vn (sidJ S w))))))], ρ) := by
    by_cases a : rgt w ∧ fD w = fS w
    · rw [b2_no (p := ¬ ((rgt w ∧ fD w = fS w) ∨ _)) (not_not_intro (Or.inl a)), b2_yes a]
      simp only [e516_123, e516_176, Option.getD_some, Option.bind_some, Option.toList_some, Option.toList_none, List.cons_append, List.nil_append, and_self, and_true, true_and, false_and, and_false, ite_self, not_true_eq_false, not_false_eq_true, reduceIte, Nat.reduceEqDiff, ab_I, ab_L, ab_R, ao_I, ao_L, ao_R, gL_sL, gI_sI, gR_sR, gI_sL, gI_sR, gL_sI, gL_sR, gR_sI, gR_sL, oneI]
    · by_cases b : widJ w
      · rw [b2_yes (p := ¬ ((rgt w ∧ fD w = fS w) ∨ _)) (fun z => z.elim a (fun u => u (Or.inl b)))]
        simp only [e516_123, e516_172, Option.getD_some, Option.bind_some, Option.toList_some, Option.toList_none, List.cons_append, List.nil_append, and_self, and_true, true_and, false_and, and_false, ite_self, not_true_eq_false, not_false_eq_true, reduceIte, Nat.reduceEqDiff, ab_I, ab_L, ab_R, ao_I, ao_L, ao_R, gL_sL, gI_sI, gR_sR, gI_sL, gI_sR, gL_sI, gL_sR, gR_sI, gR_sL, b2_n', a, eq_true b]
      · by_cases s : isSgn (fC w)
        · rw [b2_no (p := ¬ ((rgt w ∧ fD w = fS w) ∨ _)) (not_not_intro (Or.inr (fun u => u.elim b (fun v => v.1 s))))]
          simp only [e516_123, e516_176, Option.getD_some, Option.bind_some, Option.toList_some, Option.toList_none, List.cons_append, List.nil_append, and_self, and_true, true_and, false_and, and_false, ite_self, not_true_eq_false, not_false_eq_true, reduceIte, Nat.reduceEqDiff, ab_I, ab_L, ab_R, ao_I, ao_L, ao_R, gL_sL, gI_sI, gR_sR, gI_sL, gI_sR, gL_sI, gL_sR, gR_sI, gR_sL, b2_n', a, b, s]
        · by_cases x1 : cF < jB (vn (rgV S (dR w)))
          · rw [b2_no (p := ¬ ((rgt w ∧ fD w = fS w) ∨ _)) (not_not_intro (Or.inr (fun u => u.elim b (fun v => v.2.1 x1))))]
            simp only [e516_123, e516_153, e516_176, Option.getD_some, Option.bind_some, Option.toList_some, Option.toList_none, List.cons_append, List.nil_append, and_self, and_true, true_and, false_and, and_false, ite_self, not_true_eq_false, not_false_eq_true, reduceIte, Nat.reduceEqDiff, ab_I, ab_L, ab_R, ao_I, ao_L, ao_R, gL_sL, gI_sI, gR_sR, gI_sL, gI_sR, gL_sI, gL_sR, gR_sI, gR_sL, b2_n', a, b, s, g_115, id.1, id.2, Int.toNat_natCast, eX, iL_F, T389, x1]
          · by_cases x2 : cF < jB (vn (sidJ S w))
            · rw [b2_no (p := ¬ ((rgt w ∧ fD w = fS w) ∨ _)) (not_not_intro (Or.inr (fun u => u.elim b (fun v => v.2.2 x2))))]
              simp only [e516_123, e516_153, e516_169, e516_176, Option.getD_some, Option.bind_some, Option.toList_some, Option.toList_none, List.cons_append, List.nil_append, and_self, and_true, true_and, false_and, and_false, ite_self, not_true_eq_false, not_false_eq_true, reduceIte, Nat.reduceEqDiff, ab_I, ab_L, ab_R, ao_I, ao_L, ao_R, gL_sL, gI_sI, gR_sR, gI_sL, gI_sR, gL_sI, gL_sR, gR_sI, gR_sL, b2_n', a, b, s, g_115, id.1, id.2, iy.1, iy.2, Int.toNat_natCast, eX, eY, iL_F, T389, x1, x2]
            · rw [b2_yes (p := ¬ ((rgt w ∧ fD w = fS w) ∨ _)) (fun z => z.elim a (fun u => u (Or.inr ⟨s, x1, x2⟩)))]
              simp only [e516_123, e516_153, e516_169, e516_172, Option.getD_some, Option.bind_some, Option.toList_some, Option.toList_none, List.cons_append, List.nil_append, and_self, and_true, true_and, false_and, and_false, ite_self, not_true_eq_false, not_false_eq_true, reduceIte, Nat.reduceEqDiff, ab_I, ab_L, ab_R, ao_I, ao_L, ao_R, gL_sL, gI_sI, gR_sR, gI_sL, gI_sR, gL_sI, gL_sR, gR_sI, gR_sL, b2_n', a, b, s, g_115, id.1, id.2, iy.1, iy.2, Int.toNat_natCast, eX, eY, iL_F, T389, x1, x2]
  rw [same, sgn, nar]
  have un0 : numJ S w g (gI σ 80 88) t = if (rgt w ∧ fD w = fS w) ∨ ¬ (widJ w ∨ ¬ isSgn (fC w) ∧ ¬ cF < jB (vn (rgV S (dR w))) ∧ ¬ cF < jB (vn (sidJ S w))) then (0, some (gI σ 80 88, S), some (g, S), t)
      else @ite _ (tdG (narN (fC w) true (vn (rgV S (dR w))) (vn (sidJ S w))).1 ∧ tdG (narN (fC w) true (vn (rgV S (dR w))) (vn (sidJ S w))).2) (Classical.propDecidable _)
        (@ite _ (tdG (narN (fC w) false (vn (rgV S (dR w))) (vn (sidJ S w))).1 ∧ tdG (narN (fC w) false (vn (rgV S (dR w))) (vn (sidJ S w))).2) (Classical.propDecidable _)
          (0, some (gI σ 80 88, nrwS S w (fC w) false (vn (rgV S (dR w))) (vn (sidJ S w))), some (g, nrwS S w (fC w) true (vn (rgV S (dR w))) (vn (sidJ S w))), t)
          (0, some (g, nrwS S w (fC w) true (vn (rgV S (dR w))) (vn (sidJ S w))), none, t))
        (@ite _ (tdG (narN (fC w) false (vn (rgV S (dR w))) (vn (sidJ S w))).1 ∧ tdG (narN (fC w) false (vn (rgV S (dR w))) (vn (sidJ S w))).2) (Classical.propDecidable _)
          (0, some (gI σ 80 88, nrwS S w (fC w) false (vn (rgV S (dR w))) (vn (sidJ S w))), none, t)
          (0, none, none, t)) := by
    unfold numJ
    rw [hd, if_neg (by decide), if_neg (by decide)]
  -- what is kept of the sides
  have b1 : inB 32661 := by decide
  have b2' : inB 32662 := by decide
  have kx : ∀ (ρ' : MS), aV ρ' d = numV (vn (rgV S (dR w))) → -128 ≤ vk (aV ρ' d) ∧ vk (aV ρ' d) < 128 := fun ρ' e => by rw [e]; exact kn _
  generalize eK : wrV (wrV ρ (32661 : Int).toNat (numV (vn (rgV S (dR w))))) (32662 : Int).toNat (numV (vn (sidJ S w))) = ρK
  have z12 : ¬ (32661 : Int).toNat = (32662 : Int).toNat := by decide
  have nK : nH S w ρK d y := by rw [← eK]; exact nH_w (nH_w n (by decide) hF.2) (by decide) hF.2
  have vK1 : aV ρK 32661 = numV (vn (rgV S (dR w))) := by rw [← eK, aV_ne (by decide)]; exact aV_same
  have vK2 : aV ρK 32662 = numV (vn (sidJ S w)) := by rw [← eK]; exact aV_same
  have qK : sqc ρK σ := by rw [← eK]; exact sqc_t (sqc_w (by decide)) (sqc_t (sqc_w (by decide)) q)
  have oK : ∀ s, ¬ (s = 102 ∨ s = 103) → gI ρK 80 s = gI σ 80 s := fun s hs => sqc_I qK (by omega) (by omega)
  have jK : J0 ρK S := JSt_sq qK (by omega) hF.2 h1
  have s197 : ∀ z1 z2 z3 : Int, RR (lkB tb516) (B516_177, [some (mR (some 80)), some (mL w), none, some (mI (fC w)), some (mI (b2 (widJ w))), some (mI g), some (mI (b2 (rgt w))), some (mI (d : Int)), some (mI (y : Int)), some (mI (-1)), some (mI z1), some (mI z2), none, none, none, none], [mI z3], ρ) = RR (lkB tb516) (B516_197, [some (mR (some 80)), some (mL w), none, some (mI (fC w)), some (mI (b2 (widJ w))), some (mI g), some (mI (b2 (rgt w))), some (mI (d : Int)), some (mI (y : Int)), some (mI (-1)), some (mI z1), some (mI z2), some (mI z3), none, none, none], [], ρK) := fun z1 z2 z3 => by
    have t1 := T430 (σ := ρ) id b1 (by rw [Int.toNat_natCast]; exact kx ρ n3)
    rw [Int.toNat_natCast, n3] at t1
    have n61 : ¬ y = (32661 : Int).toNat := by omega
    have t2 := T430 (σ := wrV ρ (32661 : Int).toNat (numV (vn (rgV S (dR w))))) iy b2' (by rw [Int.toNat_natCast, aV_ne n61, n4]; exact kn _)
    rw [Int.toNat_natCast, aV_ne n61, n4] at t2
    simp only [e516_177, e516_188, Option.getD_some, Option.bind_some, Option.toList_some, Option.toList_none, List.cons_append, List.nil_append, and_self, and_true, true_and, false_and, and_false, ite_self, not_true_eq_false, not_false_eq_true, reduceIte, Nat.reduceEqDiff, ab_I, ab_L, ab_R, ao_I, ao_L, ao_R, gL_sL, gI_sI, gR_sR, gI_sL, gI_sR, gL_sI, gL_sR, gR_sI, gR_sL, t1, t2, eK]
  rw [s197]
  -- the sides are laid back
  have back : ∀ (ρ' : MS), aV ρ' 32661 = numV (vn (rgV S (dR w))) → aV ρ' 32662 = numV (vn (sidJ S w)) → ∀ (z1 z2 z3 z4 : Int), RR (lkB tb516) (B516_235, [some (mR (some 80)), some (mL w), none, some (mI (fC w)), some (mI (b2 (widJ w))), some (mI g), some (mI (b2 (rgt w))), some (mI (d : Int)), some (mI (y : Int)), some (mI (-1)), some (mI z1), some (mI z2), some (mI z3), some (mI z4), none, none], [], ρ') = RR (lkB tb516) (B516_253, [some (mR (some 80)), some (mL w), none, some (mI (fC w)), some (mI (b2 (widJ w))), some (mI g), some (mI (b2 (rgt w))), some (mI (d : Int)), some (mI (y : Int)), some (mI (-1)), some (mI z1), some (mI z2), some (mI z3), some (mI z4), none, none], [], wrV (wrV ρ' d (numV (vn (rgV S (dR w))))) y (numV (vn (sidJ S w)))) := fun ρ' e1 e2 z1 z2 z3 z4 => by
    have t1 := T430 (σ := ρ') b1 id (by rw [show (32661 : Int).toNat = 32661 from rfl, e1]; exact kn _)
    rw [Int.toNat_natCast, show (32661 : Int).toNat = 32661 from rfl, e1] at t1
    have t2 := T430 (σ := wrV ρ' d (numV (vn (rgV S (dR w))))) b2' iy (by rw [show (32662 : Int).toNat = 32662 from rfl, aV_ne (by omega), e2]; exact kn _)
    rw [Int.toNat_natCast, show (32662 : Int).toNat = 32662 from rfl, aV_ne (by omega), e2] at t2
    simp only [e516_235, e516_244, Option.getD_some, Option.bind_some, Option.toList_some, Option.toList_none, List.cons_append, List.nil_append, and_self, and_true, true_and, false_and, and_false, ite_self, not_true_eq_false, not_false_eq_true, reduceIte, Nat.reduceEqDiff, ab_I, ab_L, ab_R, ao_I, ao_L, ao_R, gL_sL, gI_sI, gR_sR, gI_sL, gI_sR, gL_sI, gL_sR, gR_sI, gR_sL, t1, t2]
  by_cases A : (rgt w ∧ fD w = fS w) ∨ ¬ (widJ w ∨ ¬ isSgn (fC w) ∧ ¬ cF < jB (vn (rgV S (dR w))) ∧ ¬ cF < jB (vn (sidJ S w)))
  · -- nothing is narrowed
    rw [if_pos A] at un0
    rw [b2_no (p := ¬ ((rgt w ∧ fD w = fS w) ∨ _)) (not_not_intro A), un0]
    have f4 := JSt_4 k0.1.2 k0.2.1 jK
    have t3 := T468s (σ := ρK) (x := 0) (y := 313) (by omega) (by omega) (by omega) k0 jK
    have u3 : MM 468 [mR (some 80), mI 0, mI 313] ρK = some (none, cpS ρK 0 313) := t3
    have c3 : JSt (cpS ρK 0 313) 313 S := cp_J (by omega) (by omega) (by omega) k0.1 k0.2.1 jK
    have c0 : J0 (cpS ρK 0 313) S := cp_o f4 (by omega) k0.1.2 k0.2.1 jK
    have cv : ∀ i, 32656 ≤ i → aV (cpS ρK 0 313) i = aV ρK i := fun i hi => by
      unfold aV rNv
      rw [cp_I f4 (by omega), cp_I f4 (by omega), cp_I f4 (by omega), cp_I f4 (by omega), cp_I f4 (by omega), cp_L f4.1 (by omega), cp_L f4.1 (by omega), cp_L f4.1 (by omega), cp_L f4.1 (by omega), cp_L f4.1 (by omega), cp_L f4.1 (by omega)]
    have cd : ∀ i, i < 104 → aV (cpS ρK 0 313) i = aV ρK i := fun i hi => by
      unfold aV rNv
      rw [cp_I f4 (by omega), cp_I f4 (by omega), cp_I f4 (by omega), cp_I f4 (by omega), cp_I f4 (by omega), cp_L f4.1 (by omega), cp_L f4.1 (by omega), cp_L f4.1 (by omega), cp_L f4.1 (by omega), cp_L f4.1 (by omega), cp_L f4.1 (by omega)]
    have cq : jq (cpS ρK 0 313) ρK := cp_jq f4 (Or.inr (Or.inr rfl))
    have c80 : ∀ s, gI (cpS ρK 0 313) 80 s = gI ρK 80 s := fun s => cp_I f4 (by omega)
    generalize eC : cpS ρK 0 313 = ρC at *
    have w1 : wrV ρC d (numV (vn (rgV S (dR w)))) = ρC := by
      have e : aV ρC d = numV (vn (rgV S (dR w))) := by rw [cd d nd.2, nK.2.1.1]
      rw [← e, wrV_eta]
    have w2 : wrV ρC y (numV (vn (sidJ S w))) = ρC := by
      have e : aV ρC y = numV (vn (sidJ S w)) := by
        rcases ny.2 with z | z
        · rw [cd y z, nK.2.1.2]
        · rw [cv y (by omega), nK.2.1.2]
      rw [← e, wrV_eta]
    have bk := back ρC (by rw [cv _ (by decide), vK1]) (by rw [cv _ (by decide), vK2])
    rw [w1, w2] at bk
    have s276 : RR (lkB tb516) (B516_197, [some (mR (some 80)), some (mL w), none, some (mI (fC w)), some (mI (b2 (widJ w))), some (mI g), some (mI (b2 (rgt w))), some (mI (d : Int)), some (mI (y : Int)), some (mI (-1)), some (mI (b2 (rgt w ∧ fD w = fS w))), some (mI (b2 (isSgn (fC w)))), some (mI 0), none, none, none], [], ρK) = RR (lkB tb516) (B516_276, [some (mR (some 80)), some (mL w), none, some (mI (fC w)), some (mI (b2 (widJ w))), some (mI g), some (mI (b2 (rgt w))), some (mI (d : Int)), some (mI (y : Int)), some (mI (-1)), some (mI (b2 (rgt w ∧ fD w = fS w))), some (mI (b2 (isSgn (fC w)))), some (mI 0), some (mI 1), none, none], [mI 1], ρC) := by
      simp only [e516_197, e516_215, e516_220, Option.getD_some, Option.bind_some, Option.toList_some, Option.toList_none, List.cons_append, List.nil_append, and_self, and_true, true_and, false_and, and_false, ite_self, not_true_eq_false, not_false_eq_true, reduceIte, Nat.reduceEqDiff, ab_I, ab_L, ab_R, ao_I, ao_L, ao_R, gL_sL, gI_sI, gR_sR, gI_sL, gI_sR, gL_sI, gL_sR, gR_sI, gR_sL, oneI, u3, bk, e516_253, e516_271]
    rw [s276]
    refine okc_m (L516p h c0 c3 k0 k0 (jq_t cq (jq_sq qK)) (fun s hs => by rw [c80, oK s hs])) fun τ z => jwo_2 z
  · rw [if_neg A] at un0
    have hne : ¬ (rgt w ∧ fD w = fS w) := fun z => A (Or.inl z)
    have hyd : ¬ y = d := fun e => by
      by_cases r : rgt w
      · rw [if_pos r] at n5
        apply hne
        refine ⟨r, ?_⟩
        have f := fld_rng w
        have f1 := f.2.1.1
        have f2 := f.2.2.1.1
        unfold dR at n1
        unfold sRr at n5
        omega
      · rw [if_neg r] at n5
        omega
    rw [b2_yes (p := ¬ ((rgt w ∧ fD w = fS w) ∨ _)) A]
    have y12 : ∀ (ρ' : MS) (p : N6 × N6) (i : Nat), 32658 ≤ i → aV (wn2 ρ' d y p) i = aV ρ' i := fun ρ' p i hi => by
      unfold wn2
      rw [aV_ne (by omega), aV_ne (by omega)]
    have t1 : MM 463 [mR (some 80), mI (fC w), mI 1, mI (d : Int), mI (y : Int)] ρK = some (some (mI (@b2 (tdG (narN (fC w) true (vn (rgV S (dR w))) (vn (sidJ S w))).1 ∧ tdG (narN (fC w) true (vn (rgV S (dR w))) (vn (sidJ S w))).2) (Classical.propDecidable _))), wn2 ρK d y (tdN (narN (fC w) true (vn (rgV S (dR w))) (vn (sidJ S w))).1, tdN (narN (fC w) true (vn (rgV S (dR w))) (vn (sidJ S w))).2)) := by
      have t := T463 (σ := ρK) (c := fC w) (i := 1) hw (Or.inr rfl) id iy (by rw [Int.toNat_natCast, Int.toNat_natCast]; exact fun e => hyd e.symm)
      rw [Int.toNat_natCast, Int.toNat_natCast, nK.2.1.1, nK.2.1.2] at t
      exact t
    have j1 : J0 (wn2 ρK d y (tdN (narN (fC w) true (vn (rgV S (dR w))) (vn (sidJ S w))).1, tdN (narN (fC w) true (vn (rgV S (dR w))) (vn (sidJ S w))).2)) (nrwS S w (fC w) true (vn (rgV S (dR w))) (vn (sidJ S w))) := nw_J hF jK nK hne rfl
    have q1 := nw_q (ρ := ρK) (p := (tdN (narN (fC w) true (vn (rgV S (dR w))) (vn (sidJ S w))).1, tdN (narN (fC w) true (vn (rgV S (dR w))) (vn (sidJ S w))).2)) nd.1 ny.1
    have o1 : ∀ s, gI (wn2 ρK d y (tdN (narN (fC w) true (vn (rgV S (dR w))) (vn (sidJ S w))).1, tdN (narN (fC w) true (vn (rgV S (dR w))) (vn (sidJ S w))).2)) 80 s = gI ρK 80 s := fun s => nw_80
    have v1 := y12 ρK (tdN (narN (fC w) true (vn (rgV S (dR w))) (vn (sidJ S w))).1, tdN (narN (fC w) true (vn (rgV S (dR w))) (vn (sidJ S w))).2)
    generalize e1 : wn2 ρK d y (tdN (narN (fC w) true (vn (rgV S (dR w))) (vn (sidJ S w))).1, tdN (narN (fC w) true (vn (rgV S (dR w))) (vn (sidJ S w))).2) = ρ1 at t1 j1 q1 o1 v1
    have k1 : kst (nrwS S w (fC w) true (vn (rgV S (dR w))) (vn (sidJ S w))) := kst_nrw k0
    have k2 : kst (nrwS S w (fC w) false (vn (rgV S (dR w))) (vn (sidJ S w))) := kst_nrw k0
    have f1 := JSt_4 k1.1.2 k1.2.1 j1
    -- from 235 on, whatever has been kept
    have rest : ∀ (ρ' : MS) (y1 : Int), J0 ρ' (nrwS S w (fC w) true (vn (rgV S (dR w))) (vn (sidJ S w))) → jq ρ' σ → (∀ s, ¬ (s = 102 ∨ s = 103) → gI ρ' 80 s = gI σ 80 s) → aV ρ' 32661 = numV (vn (rgV S (dR w))) → aV ρ' 32662 = numV (vn (sidJ S w)) → (y1 = 1 ∧ JSt ρ' 313 (nrwS S w (fC w) true (vn (rgV S (dR w))) (vn (sidJ S w))) ∧ (tdG (narN (fC w) true (vn (rgV S (dR w))) (vn (sidJ S w))).1 ∧ tdG (narN (fC w) true (vn (rgV S (dR w))) (vn (sidJ S w))).2) ∨ y1 = 0 ∧ ¬ (tdG (narN (fC w) true (vn (rgV S (dR w))) (vn (sidJ S w))).1 ∧ tdG (narN (fC w) true (vn (rgV S (dR w))) (vn (sidJ S w))).2)) → okc (RR (lkB tb516) (B516_235, [some (mR (some 80)), some (mL w), none, some (mI (fC w)), some (mI (b2 (widJ w))), some (mI g), some (mI (b2 (rgt w))), some (mI (d : Int)), some (mI (y : Int)), some (mI (-1)), some (mI (b2 (rgt w ∧ fD w = fS w))), some (mI (b2 (isSgn (fC w)))), some (mI 1), some (mI y1), none, none], [], ρ')) none (fun τ => jwo σ τ N K l (numJ S w g (gI σ 80 88) t)) := by
      intro ρ' y1 r1 r2 r3 r4 r5 r6
      rw [un0, back ρ' r4 r5]
      -- the state as it was
      have sd : sV S d = numV (vn (rgV S (dR w))) := by rw [← J0_v jK (show d < 26 * sF S by omega), nK.2.1.1]
      have jb : J0 (wrV (wrV ρ' d (numV (vn (rgV S (dR w))))) y (numV (vn (sidJ S w)))) S := by
        have a1 := J0_wV (k := d) (v := numV (vn (rgV S (dR w)))) (show sF (nrwS S w (fC w) true (vn (rgV S (dR w))) (vn (sidJ S w))) ≤ 4 from k1.1.2) r1
        by_cases r : rgt w
        · rw [if_pos r] at n5
          have sy : sV S y = numV (vn (sidJ S w)) := by rw [← J0_v jK (show y < 26 * sF S by omega), nK.2.1.2]
          have a2 := J0_wV (k := y) (v := numV (vn (sidJ S w))) (by exact k1.1.2) a1
          have es : ((sF (nrwS S w (fC w) true (vn (rgV S (dR w))) (vn (sidJ S w))), upV (upV (sV (nrwS S w (fC w) true (vn (rgV S (dR w))) (vn (sidJ S w)))) d (numV (vn (rgV S (dR w))))) y (numV (vn (sidJ S w))), sB (nrwS S w (fC w) true (vn (rgV S (dR w))) (vn (sidJ S w))), sH (nrwS S w (fC w) true (vn (rgV S (dR w))) (vn (sidJ S w)))) : ST) = S := by
            unfold nrwS
            rw [if_pos r]
            refine st_ext rfl (fun j => ?_) rfl rfl
            show (if j = y then numV (vn (sidJ S w)) else if j = d then numV (vn (rgV S (dR w))) else if j = 26 * (sF S - 1) + sRr w then _ else if j = 26 * (sF S - 1) + dR w then _ else sV S j) = sV S j
            by_cases u : j = y
            · rw [if_pos u, u, sy]
            · rw [if_neg u]
              by_cases v : j = d
              · rw [if_pos v, v, sd]
              · rw [if_neg v, if_neg (by omega), if_neg (by omega)]
          have a3 := a2
          rw [show ((_, upV _ y (numV (vn (sidJ S w))), _, _) : ST) = S from es] at a3
          exact a3
        · rw [if_neg r] at n5
          have es : ((sF (nrwS S w (fC w) true (vn (rgV S (dR w))) (vn (sidJ S w))), upV (sV (nrwS S w (fC w) true (vn (rgV S (dR w))) (vn (sidJ S w)))) d (numV (vn (rgV S (dR w)))), sB (nrwS S w (fC w) true (vn (rgV S (dR w))) (vn (sidJ S w))), sH (nrwS S w (fC w) true (vn (rgV S (dR w))) (vn (sidJ S w)))) : ST) = S := by
            unfold nrwS
            rw [if_neg r]
            refine st_ext rfl (fun j => ?_) rfl rfl
            show (if j = d then numV (vn (rgV S (dR w))) else if j = 26 * (sF S - 1) + dR w then _ else sV S j) = sV S j
            by_cases v : j = d
            · rw [if_pos v, v, sd]
            · rw [if_neg v, if_neg (by omega)]
          rw [es] at a1
          exact JSt_sq (sqc_w (by omega)) (by omega) hF.2 a1
      have nb : nH S w (wrV (wrV ρ' d (numV (vn (rgV S (dR w))))) y (numV (vn (sidJ S w)))) d y := ⟨⟨n1, n2⟩, ⟨by rw [aV_ne (fun e => hyd e.symm), aV_same], aV_same⟩, n5⟩
      have qb : jq (wrV (wrV ρ' d (numV (vn (rgV S (dR w))))) y (numV (vn (sidJ S w)))) σ := jq_t (jq_w ny.1) (jq_t (jq_w nd.1) r2)
      have ob : ∀ s, ¬ (s = 102 ∨ s = 103) → gI (wrV (wrV ρ' d (numV (vn (rgV S (dR w))))) y (numV (vn (sidJ S w)))) 80 s = gI σ 80 s := fun s hs => by rw [gW80, gW80, r3 s hs]
      have r313 : JSt ρ' 313 (nrwS S w (fC w) true (vn (rgV S (dR w))) (vn (sidJ S w))) → JSt (wrV (wrV ρ' d (numV (vn (rgV S (dR w))))) y (numV (vn (sidJ S w)))) 313 (nrwS S w (fC w) true (vn (rgV S (dR w))) (vn (sidJ S w))) := fun z => by
        obtain ⟨g1, g2, g3, g4, g5⟩ := z
        refine ⟨by rw [gW (by omega), gW (by omega)]; exact g1, fun k hk => ?_, fun f f1 f2 => by rw [gW (by omega), gW (by omega)]; exact g3 f f1 f2, by rw [gW (by omega), gW (by omega)]; exact g4, fun j hj => by rw [gW (by omega), gW (by omega)]; exact g5 j hj⟩
        have k4 := k1.1.2
        rw [aV_ne (by omega), aV_ne (by omega)]
        exact g2 k hk
      generalize wrV (wrV ρ' d (numV (vn (rgV S (dR w))))) y (numV (vn (sidJ S w))) = ρb at jb nb qb ob r313
      have t2 : MM 463 [mR (some 80), mI (fC w), mI 0, mI (d : Int), mI (y : Int)] ρb = some (some (mI (@b2 (tdG (narN (fC w) false (vn (rgV S (dR w))) (vn (sidJ S w))).1 ∧ tdG (narN (fC w) false (vn (rgV S (dR w))) (vn (sidJ S w))).2) (Classical.propDecidable _))), wn2 ρb d y (tdN (narN (fC w) false (vn (rgV S (dR w))) (vn (sidJ S w))).1, tdN (narN (fC w) false (vn (rgV S (dR w))) (vn (sidJ S w))).2)) := by
        have t := T463 (σ := ρb) (c := fC w) (i := 0) hw (Or.inl rfl) id iy (by rw [Int.toNat_natCast, Int.toNat_natCast]; exact fun e => hyd e.symm)
        rw [Int.toNat_natCast, Int.toNat_natCast, nb.2.1.1, nb.2.1.2] at t
        exact t
      have j2 : J0 (wn2 ρb d y (tdN (narN (fC w) false (vn (rgV S (dR w))) (vn (sidJ S w))).1, tdN (narN (fC w) false (vn (rgV S (dR w))) (vn (sidJ S w))).2)) (nrwS S w (fC w) false (vn (rgV S (dR w))) (vn (sidJ S w))) := nw_J hF jb nb hne rfl
      have q2 : jq (wn2 ρb d y (tdN (narN (fC w) false (vn (rgV S (dR w))) (vn (sidJ S w))).1, tdN (narN (fC w) false (vn (rgV S (dR w))) (vn (sidJ S w))).2)) σ := jq_t (nw_q nd.1 ny.1) qb
      have o2 : ∀ s, ¬ (s = 102 ∨ s = 103) → gI (wn2 ρb d y (tdN (narN (fC w) false (vn (rgV S (dR w))) (vn (sidJ S w))).1, tdN (narN (fC w) false (vn (rgV S (dR w))) (vn (sidJ S w))).2)) 80 s = gI σ 80 s := fun s hs => by rw [nw_80, ob s hs]
      have w313 : JSt ρb 313 (nrwS S w (fC w) true (vn (rgV S (dR w))) (vn (sidJ S w))) → JSt (wn2 ρb d y (tdN (narN (fC w) false (vn (rgV S (dR w))) (vn (sidJ S w))).1, tdN (narN (fC w) false (vn (rgV S (dR w))) (vn (sidJ S w))).2)) 313 (nrwS S w (fC w) true (vn (rgV S (dR w))) (vn (sidJ S w))) := fun z => by
        obtain ⟨g1, g2, g3, g4, g5⟩ := z
        unfold wn2
        refine ⟨by rw [gW (by omega), gW (by omega)]; exact g1, fun k hk => ?_, fun f f1 f2 => by rw [gW (by omega), gW (by omega)]; exact g3 f f1 f2, by rw [gW (by omega), gW (by omega)]; exact g4, fun j hj => by rw [gW (by omega), gW (by omega)]; exact g5 j hj⟩
        have k4 := k1.1.2
        rw [aV_ne (by omega), aV_ne (by omega)]
        exact g2 k hk
      generalize wn2 ρb d y (tdN (narN (fC w) false (vn (rgV S (dR w))) (vn (sidJ S w))).1, tdN (narN (fC w) false (vn (rgV S (dR w))) (vn (sidJ S w))).2) = ρ2 at t2 j2 q2 o2 w313
      have s276 : RR (lkB tb516) (B516_253, [some (mR (some 80)), some (mL w), none, some (mI (fC w)), some (mI (b2 (widJ w))), some (mI g), some (mI (b2 (rgt w))), some (mI (d : Int)), some (mI (y : Int)), some (mI (-1)), some (mI (b2 (rgt w ∧ fD w = fS w))), some (mI (b2 (isSgn (fC w)))), some (mI 1), some (mI y1), none, none], [], ρb) = RR (lkB tb516) (B516_276, [some (mR (some 80)), some (mL w), none, some (mI (fC w)), some (mI (b2 (widJ w))), some (mI g), some (mI (b2 (rgt w))), some (mI (d : Int)), some (mI (y : Int)), some (mI (-1)), some (mI (b2 (rgt w ∧ fD w = fS w))), some (mI (b2 (isSgn (fC w)))), some (mI 1), some (mI y1), none, none], [mI (@b2 (tdG (narN (fC w) false (vn (rgV S (dR w))) (vn (sidJ S w))).1 ∧ tdG (narN (fC w) false (vn (rgV S (dR w))) (vn (sidJ S w))).2) (Classical.propDecidable _))], ρ2) := by
        by_cases G : tdG (narN (fC w) false (vn (rgV S (dR w))) (vn (sidJ S w))).1 ∧ tdG (narN (fC w) false (vn (rgV S (dR w))) (vn (sidJ S w))).2
        · rw [b2_yes G]
          rw [b2_yes G] at t2
          simp only [e516_253, e516_268, e516_271, Option.getD_some, Option.bind_some, Option.toList_some, Option.toList_none, List.cons_append, List.nil_append, and_self, and_true, true_and, false_and, and_false, ite_self, not_true_eq_false, not_false_eq_true, reduceIte, Nat.reduceEqDiff, ab_I, ab_L, ab_R, ao_I, ao_L, ao_R, gL_sL, gI_sI, gR_sR, gI_sL, gI_sR, gL_sI, gL_sR, gR_sI, gR_sL, oneI, t2]
        · rw [b2_no G]
          rw [b2_no G] at t2
          simp only [e516_253, e516_268, Option.getD_some, Option.bind_some, Option.toList_some, Option.toList_none, List.cons_append, List.nil_append, and_self, and_true, true_and, false_and, and_false, ite_self, not_true_eq_false, not_false_eq_true, reduceIte, Nat.reduceEqDiff, ab_I, ab_L, ab_R, ao_I, ao_L, ao_R, gL_sL, gI_sI, gR_sR, gI_sL, gI_sR, gL_sI, gL_sR, gR_sI, gR_sL, oneI, t2]
      rw [s276]
      rcases r6 with ⟨rfl, r6, G1⟩ | ⟨rfl, G1⟩
      · rw [if_pos G1]
        by_cases G : tdG (narN (fC w) false (vn (rgV S (dR w))) (vn (sidJ S w))).1 ∧ tdG (narN (fC w) false (vn (rgV S (dR w))) (vn (sidJ S w))).2
        · rw [b2_yes G, if_pos G]
          exact okc_m (L516p h j2 (w313 (r313 r6)) k2 k1 q2 o2) fun τ z => jwo_2 z
        · rw [b2_no G, if_neg G]
          have jy := w313 (r313 r6)
          have f5 := JSt_4 k1.1.2 k1.2.1 jy
          have t3 := T468s (σ := ρ2) (x := 313) (y := 0) (by omega) (by omega) (by omega) k1 jy
          have u3 : MM 468 [mR (some 80), mI 313, mI 0] ρ2 = some (none, cpS ρ2 313 0) := t3
          simp only [e516_276, e516_329, e516_342, Option.getD_some, Option.bind_some, Option.toList_some, Option.toList_none, List.cons_append, List.nil_append, and_self, and_true, true_and, false_and, and_false, ite_self, not_true_eq_false, not_false_eq_true, reduceIte, Nat.reduceEqDiff, ab_I, ab_L, ab_R, ao_I, ao_L, ao_R, gL_sL, gI_sI, gR_sR, gI_sL, gI_sR, gL_sI, gL_sR, gR_sI, gR_sL, oneI, u3]
          refine okc_s (jwo_1 ⟨jq_t (jq_I (by omega)) (jq_t (cp_jq f5 (Or.inl rfl)) q2), ?_, fun _ => ⟨JSt_sI (by omega) (cp_J (by omega) (by omega) (by omega) k1.1 k1.2.1 jy), ?_, ?_, ?_⟩⟩)
          · rw [gI_sI, if_neg (by omega), cp_I f5 (by omega), o2 _ (by decide), h5]
          · rw [gI_sI, if_pos ⟨rfl, rfl⟩]
          · rw [gI_sI, if_neg (by omega), cp_I f5 (by omega), o2 _ (by decide)]
          · rw [gI_sI, if_neg (by omega), cp_I f5 (by omega), o2 _ (by decide), h6]
      · rw [if_neg G1]
        by_cases G : tdG (narN (fC w) false (vn (rgV S (dR w))) (vn (sidJ S w))).1 ∧ tdG (narN (fC w) false (vn (rgV S (dR w))) (vn (sidJ S w))).2
        · rw [b2_yes G, if_pos G]
          simp only [e516_276, e516_329, Option.getD_some, Option.bind_some, Option.toList_some, Option.toList_none, List.cons_append, List.nil_append, and_self, and_true, true_and, false_and, and_false, ite_self, not_true_eq_false, not_false_eq_true, reduceIte, Nat.reduceEqDiff, ab_I, ab_L, ab_R, ao_I, ao_L, ao_R, gL_sL, gI_sI, gR_sR, gI_sL, gI_sR, gL_sI, gL_sR, gR_sI, gR_sL, oneI]
          exact okc_s (jwo_1 ⟨q2, by rw [o2 _ (by decide), h5], fun _ => ⟨j2, o2 _ (by decide), o2 _ (by decide), by rw [o2 _ (by decide), h6]⟩⟩)
        · rw [b2_no G, if_neg G]
          have l2 : gI ρ2 80 82 = (l : Int) := by rw [o2 _ (by decide), h11]
          have f2 : gI ρ2 80 83 = gI σ 80 83 := o2 _ (by decide)
          have K2 : KR ρ2 N K := fun k hk => by
            rw [q2.1 _ _ (by omega), q2.1 _ _ (by omega), q2.1 _ _ (by omega), q2.1 _ _ (by omega), q2.1 _ _ (by omega)]
            exact h8 k hk
          have t4 := T484 (σ := ρ2) (n := gI σ 80 83) h10 K2 h9 l2 h12 (by omega)
          simp only [e516_276, e516_329, Option.getD_some, Option.bind_some, Option.toList_some, Option.toList_none, List.cons_append, List.nil_append, and_self, and_true, true_and, false_and, and_false, ite_self, not_true_eq_false, not_false_eq_true, reduceIte, Nat.reduceEqDiff, ab_I, ab_L, ab_R, ao_I, ao_L, ao_R, gL_sL, gI_sI, gR_sR, gI_sL, gI_sR, gL_sI, gL_sR, gR_sI, gR_sL, f2]
          refine okc_b t4 fun τ z => ?_
          simp only [Option.toList_none, List.nil_append, e516_364]
          refine okc_s (jwo_e ⟨?_, ?_, ?_, ?_, ?_⟩)
          · rw [gI_sI, if_neg (by omega), z.2.1 _ _ (by omega), o2 _ (by decide), h5]
          · rw [gI_sI, if_pos ⟨rfl, rfl⟩]
          · rw [gI_sI, if_neg (by omega), z.2.1 _ _ (by omega), o2 _ (by decide), h6]
          · intro k hk
            have := z.1 k hk
            rw [gI_sI, if_neg (by omega), gI_sI, if_neg (by omega), gI_sI, if_neg (by omega), gI_sI, if_neg (by omega), gI_sI, if_neg (by omega)]
            exact this
          · refine ⟨fun k s p1 p2 => ?_, fun k s p => ?_, ?_⟩
            · rw [gI_sI, if_neg (by omega), z.2.1 _ _ p2]
              exact q2.1 k s p1
            · rw [gL_sI, z.2.2.1]
              exact q2.2.1 k s p
            · exact z.2.2.2.trans q2.2.2
    by_cases G1 : tdG (narN (fC w) true (vn (rgV S (dR w))) (vn (sidJ S w))).1 ∧ tdG (narN (fC w) true (vn (rgV S (dR w))) (vn (sidJ S w))).2
    · rw [b2_yes G1] at t1
      have t3 := T468s (σ := ρ1) (x := 0) (y := 313) (by omega) (by omega) (by omega) k1 j1
      have u3 : MM 468 [mR (some 80), mI 0, mI 313] ρ1 = some (none, cpS ρ1 0 313) := t3
      have s235 : RR (lkB tb516) (B516_197, [some (mR (some 80)), some (mL w), none, some (mI (fC w)), some (mI (b2 (widJ w))), some (mI g), some (mI (b2 (rgt w))), some (mI (d : Int)), some (mI (y : Int)), some (mI (-1)), some (mI (b2 (rgt w ∧ fD w = fS w))), some (mI (b2 (isSgn (fC w)))), some (mI 1), none, none, none], [], ρK) = RR (lkB tb516) (B516_235, [some (mR (some 80)), some (mL w), none, some (mI (fC w)), some (mI (b2 (widJ w))), some (mI g), some (mI (b2 (rgt w))), some (mI (d : Int)), some (mI (y : Int)), some (mI (-1)), some (mI (b2 (rgt w ∧ fD w = fS w))), some (mI (b2 (isSgn (fC w)))), some (mI 1), some (mI 1), none, none], [], cpS ρ1 0 313) := by
        simp only [e516_197, e516_212, e516_215, e516_220, Option.getD_some, Option.bind_some, Option.toList_some, Option.toList_none, List.cons_append, List.nil_append, and_self, and_true, true_and, false_and, and_false, ite_self, not_true_eq_false, not_false_eq_true, reduceIte, Nat.reduceEqDiff, ab_I, ab_L, ab_R, ao_I, ao_L, ao_R, gL_sL, gI_sI, gR_sR, gI_sL, gI_sR, gL_sI, gL_sR, gR_sI, gR_sL, oneI, t1, u3]
      rw [s235]
      have cv : ∀ i, 32656 ≤ i → aV (cpS ρ1 0 313) i = aV ρ1 i := fun i hi => by
        unfold aV rNv
        rw [cp_I f1 (by omega), cp_I f1 (by omega), cp_I f1 (by omega), cp_I f1 (by omega), cp_I f1 (by omega), cp_L f1.1 (by omega), cp_L f1.1 (by omega), cp_L f1.1 (by omega), cp_L f1.1 (by omega), cp_L f1.1 (by omega), cp_L f1.1 (by omega)]
      refine rest _ 1 (cp_o f1 (by omega) k1.1.2 k1.2.1 j1) (jq_t (cp_jq f1 (Or.inr (Or.inr rfl))) (jq_t q1 (jq_sq qK))) (fun s hs => by rw [cp_I f1 (by omega), o1, oK s hs]) (by rw [cv _ (by decide), v1 _ (by decide), vK1]) (by rw [cv _ (by decide), v1 _ (by decide), vK2]) (Or.inl ⟨rfl, cp_J (by omega) (by omega) (by omega) k1.1 k1.2.1 j1, G1⟩)
    · rw [b2_no G1] at t1
      have s235 : RR (lkB tb516) (B516_197, [some (mR (some 80)), some (mL w), none, some (mI (fC w)), some (mI (b2 (widJ w))), some (mI g), some (mI (b2 (rgt w))), some (mI (d : Int)), some (mI (y : Int)), some (mI (-1)), some (mI (b2 (rgt w ∧ fD w = fS w))), some (mI (b2 (isSgn (fC w)))), some (mI 1), none, none, none], [], ρK) = RR (lkB tb516) (B516_235, [some (mR (some 80)), some (mL w), none, some (mI (fC w)), some (mI (b2 (widJ w))), some (mI g), some (mI (b2 (rgt w))), some (mI (d : Int)), some (mI (y : Int)), some (mI (-1)), some (mI (b2 (rgt w ∧ fD w = fS w))), some (mI (b2 (isSgn (fC w)))), some (mI 1), some (mI 0), none, none], [], ρ1) := by
        simp only [e516_197, e516_212, e516_220, Option.getD_some, Option.bind_some, Option.toList_some, Option.toList_none, List.cons_append, List.nil_append, and_self, and_true, true_and, false_and, and_false, ite_self, not_true_eq_false, not_false_eq_true, reduceIte, Nat.reduceEqDiff, ab_I, ab_L, ab_R, ao_I, ao_L, ao_R, gL_sL, gI_sI, gR_sR, gI_sL, gI_sR, gL_sI, gL_sR, gR_sI, gR_sL, oneI, t1]
      rw [s235]
      exact rest _ 0 j1 (jq_t q1 (jq_sq qK)) (fun s hs => by rw [o1, oK s hs]) (by rw [v1 _ (by decide), vK1]) (by rw [v1 _ (by decide), vK2]) (Or.inr ⟨rfl, G1⟩)
end NUMB
