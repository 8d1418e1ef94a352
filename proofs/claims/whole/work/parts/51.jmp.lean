/-! ===== the reference's judge: jumps, pairs, EXIT ===== -/
section JMP
variable {σ τ ρ : MS} {S : ST} {E : EV} {t g : Int} {N l m px y : Nat} {K : Nat → KT} {w : B64}
theorem T524 (H : HJ σ S E t N K l m) : okc (MM 524 [mR (some 80)] σ) none (fun τ => jwo σ τ N K l (exiJ S t)) := by
  have H' := H
  obtain ⟨⟨h1, h2, h3, h4⟩, ⟨h5, h6, h7⟩, ⟨h8, h9, h10⟩, ⟨h11, h12⟩, ⟨h13, h14⟩, h15⟩ := H'
  have hF := h2.1
  have n0 := at_n h1 hF (r := 0) (by omega)
  rw [show ((0 : Nat) : Int) = 0 from rfl] at n0
  have v0 := at_nv h1 hF (r := 0) (by omega)
  have b0 := at_b hF (r := 0) (by omega)
  have k118 : gI σ 118 (26 * (sF S - 1) + 0) = vk (rgV S 0) := by rw [q118, v0]
  have okZ := okV_r h2 (show 0 ≤ 10 by omega)
  generalize ez : 26 * (sF S - 1) + 0 = z at *
  have t94 := T494 (σ := σ) b0
  rw [Int.toNat_natCast, v0] at t94
  by_cases c0 : vk (rgV S 0) = 0
  · have un : exiJ S t = (3, none, none, t) := by unfold exiJ; rw [if_pos c0]
    rw [show wntS (rgV S 0) = 3 from if_pos c0] at t94
    have g3 : ¬ gI (flt σ 3) 80 90 = 0 := by rw [fl_g, h5, fst0]; decide
    rw [un]
    simp only [M524, e524_0, e524_5, e524_11, e524_34, Option.getD_some, Option.bind_some, Option.toList_some, Option.toList_none, List.cons_append, List.nil_append, and_self, and_true, true_and, false_and, and_false, ite_self, not_true_eq_false, not_false_eq_true, reduceIte, Nat.reduceEqDiff, ab_I, ab_L, ab_R, ao_I, ao_L, ao_R, gL_sL, gI_sI, gR_sR, gI_sL, gI_sR, gL_sI, gL_sR, gR_sI, gR_sL, n0, t94, g3]
    exact okc_s (jwo_f (f := 3) (by decide) rfl ⟨by rw [fl_g, h5, fst0], jq_f⟩)
  · rw [show wntS (rgV S 0) = 0 from if_neg c0, flt_0] at t94
    by_cases c1 : vk (rgV S 0) = 1
    · by_cases f1 : sF S = 1
      · by_cases e : sH S = []
        · have un : exiJ S t = (0, none, none, t) := by unfold exiJ; rw [if_neg c0, if_neg (not_not_intro c1), if_pos f1, if_pos e]
          have l0 : ((sH S).length : Int) ≤ 0 := by rw [e]; decide
          have g123 : gI σ 123 0 = 1 := by rw [h1.1, f1]; rfl
          have t4 := T484 (σ := σ) (n := gI σ 80 83) h10 h8 h9 h11 h12 (by omega)
          rw [un]
          simp only [M524, e524_0, e524_5, e524_11, e524_34, Option.getD_some, Option.bind_some, Option.toList_some, Option.toList_none, List.cons_append, List.nil_append, and_self, and_true, true_and, false_and, and_false, ite_self, not_true_eq_false, not_false_eq_true, reduceIte, Nat.reduceEqDiff, ab_I, ab_L, ab_R, ao_I, ao_L, ao_R, gL_sL, gI_sI, gR_sR, gI_sL, gI_sR, gL_sI, gL_sR, gR_sI, gR_sL, n0, t94, h5, g_118, g_123, g_125, b0.1, b0.2, Int.toNat_natCast, k118, c1, Int.reduceLT, Int.reduceLE, show (0 : Int).toNat = 0 from rfl, g123, h1.2.2.2.1, l0]
          refine okc_b t4 fun τ z => ?_
          simp only [Option.toList_none, List.nil_append, e524_76]
          refine okc_s (jwo_e ⟨?_, ?_, ?_, ?_, ?_⟩)
          · rw [gI_sI, if_neg (by omega), z.2.1 _ _ (by omega), h5]
          · rw [gI_sI, if_pos ⟨rfl, rfl⟩]
          · rw [gI_sI, if_neg (by omega), z.2.1 _ _ (by omega), h6]
          · intro k hk
            have := z.1 k hk
            rw [gI_sI, if_neg (by omega), gI_sI, if_neg (by omega), gI_sI, if_neg (by omega), gI_sI, if_neg (by omega), gI_sI, if_neg (by omega)]
            exact this
          · refine ⟨fun k s p1 p2 => ?_, fun k s p => ?_, ?_⟩
            · rw [gI_sI, if_neg (by omega)]
              exact z.2.1 _ _ p2
            · rw [gL_sI]
              exact z.2.2.1 k s
            · exact z.2.2.2
        · have un : exiJ S t = (10, none, none, t) := by unfold exiJ; rw [if_neg c0, if_neg (not_not_intro c1), if_pos f1, if_neg e]
          have l0 : ¬ ((sH S).length : Int) ≤ 0 := by
            have : 0 < (sH S).length := Nat.pos_of_ne_zero fun z => e (List.eq_nil_of_length_eq_zero z)
            omega
          have g123 : gI σ 123 0 = 1 := by rw [h1.1, f1]; rfl
          rw [un]
          simp only [M524, e524_0, e524_5, e524_11, e524_34, e524_67, Option.getD_some, Option.bind_some, Option.toList_some, Option.toList_none, List.cons_append, List.nil_append, and_self, and_true, true_and, false_and, and_false, ite_self, not_true_eq_false, not_false_eq_true, reduceIte, Nat.reduceEqDiff, ab_I, ab_L, ab_R, ao_I, ao_L, ao_R, gL_sL, gI_sI, gR_sR, gI_sL, gI_sR, gL_sI, gL_sR, gR_sI, gR_sL, n0, t94, h5, g_118, g_123, g_125, b0.1, b0.2, Int.toNat_natCast, k118, c1, Int.reduceLT, Int.reduceLE, show (0 : Int).toNat = 0 from rfl, g123, h1.2.2.2.1, l0, T473]
          exact okc_s (jwo_f (f := 10) (by decide) rfl ⟨by rw [fl_g, h5, fst0], jq_f⟩)
      · have un : exiJ S t = (0, some (sB S (sF S - 1), unsA (wV (sF S - 1, sV S, sB S, sH S) 0 (rgV S 0))), none, t) := by unfold exiJ; rw [if_neg c0, if_neg (not_not_intro c1), if_neg f1]
        have nF : ¬ (sF S : Int) = 1 := by omega
        have eF : w32 ((sF S : Int) - 1) = ((sF S - 1 : Nat) : Int) := by rw [w32_i (by omega) (by omega)]; omega
        obtain ⟨j1, j2, j3, j4, j5⟩ := h1
        have jS : ∀ x : Int, J0 (sI (sI σ 123 0 ((sF S - 1 : Nat) : Int)) 80 88 x) (sF S - 1, sV S, sB S, sH S) := fun x => by
          refine ⟨?_, fun k hk => ?_, fun f f1 f2 => ?_, ?_, fun i hi => ?_⟩
          · rw [gI_sI, if_neg (by omega), gI_sI, if_pos ⟨rfl, rfl⟩]
          · have hk : k < 26 * (sF S - 1) := hk
            rw [aV_sI (by omega), aV_sI (by omega)]
            exact j2 k (by omega)
          · have f2 : f < sF S - 1 := f2
            rw [gI_sI, if_neg (by omega), gI_sI, if_neg (by omega)]
            exact j3 f f1 (by omega)
          · rw [gI_sI, if_neg (by omega), gI_sI, if_neg (by omega)]
            exact j4
          · rw [gI_sI, if_neg (by omega), gI_sI, if_neg (by omega)]
            exact j5 i hi
        have e124 : gI (sI σ 123 0 ((sF S - 1 : Nat) : Int)) 124 (sF S - 1) = sB S (sF S - 1) := by
          rw [gI_sI, if_neg (by omega)]
          have := j3 (sF S - 1) (by omega) (by omega)
          rwa [show 4 * 0 + (sF S - 1) = sF S - 1 by omega] at this
        have g12 : gI (sI σ 123 0 ((sF S - 1 : Nat) : Int)) 123 0 = ((sF S - 1 : Nat) : Int) := by rw [gI_sI, if_pos ⟨rfl, rfl⟩]
        have jx := jS (sB S (sF S - 1))
        have hF2 : 1 ≤ sF ((sF S - 1, sV S, sB S, sH S) : ST) ∧ sF ((sF S - 1, sV S, sB S, sH S) : ST) ≤ 4 := by
          show 1 ≤ sF S - 1 ∧ sF S - 1 ≤ 4
          omega
        have n1 := at_n jx hF2 (r := 0) (by omega)
        rw [show ((0 : Nat) : Int) = 0 from rfl] at n1
        have i1 : 0 ≤ ((sF S - 1 : Nat) : Int) ∧ ((sF S - 1 : Nat) : Int) < 1256 := by omega
        have vz : aV (sI (sI σ 123 0 ((sF S - 1 : Nat) : Int)) 80 88 (sB S (sF S - 1))) z = rgV S 0 := by rw [aV_sI (by omega), aV_sI (by omega), v0]
        have b1 : inB ((26 * (sF ((sF S - 1, sV S, sB S, sH S) : ST) - 1) + 0 : Nat) : Int) := at_b hF2 (by omega)
        have t3 := T430 (σ := sI (sI σ 123 0 ((sF S - 1 : Nat) : Int)) 80 88 (sB S (sF S - 1))) b0 b1 (by rw [Int.toNat_natCast, vz]; have := okZ.1; omega)
        rw [Int.toNat_natCast, Int.toNat_natCast, vz] at t3
        have jw := J0_wV (k := 26 * (sF ((sF S - 1, sV S, sB S, sH S) : ST) - 1) + 0) (v := rgV S 0) hF2.2 jx
        have t5 := T525 (F := sF S - 1) jw.1 hF2
        have ju := ua_J0 (S := wV (sF S - 1, sV S, sB S, sH S) 0 (rgV S 0)) hF2 jw
        have qu : jq (unA (wrV (sI (sI σ 123 0 ((sF S - 1 : Nat) : Int)) 80 88 (sB S (sF S - 1))) (26 * (sF ((sF S - 1, sV S, sB S, sH S) : ST) - 1) + 0) (rgV S 0)) (26 * (sF S - 1 - 1)) 5) σ := by
          refine jq_t (ua_jq (by omega)) (jq_t (jq_w ?_) (jq_t (jq_I (by omega)) (jq_I (by omega))))
          show 26 * (sF S - 1 - 1) + 0 < 104 ∨ _
          omega
        have o80 : ∀ s, ¬ s = 88 → gI (unA (wrV (sI (sI σ 123 0 ((sF S - 1 : Nat) : Int)) 80 88 (sB S (sF S - 1))) (26 * (sF ((sF S - 1, sV S, sB S, sH S) : ST) - 1) + 0) (rgV S 0)) (26 * (sF S - 1 - 1)) 5) 80 s = gI σ 80 s := fun s hs => by
          rw [ua_I (by omega), gW80, gI_sI, if_neg (by omega), gI_sI, if_neg (by omega)]
        have o88 : gI (unA (wrV (sI (sI σ 123 0 ((sF S - 1 : Nat) : Int)) 80 88 (sB S (sF S - 1))) (26 * (sF ((sF S - 1, sV S, sB S, sH S) : ST) - 1) + 0) (rgV S 0)) (26 * (sF S - 1 - 1)) 5) 80 88 = sB S (sF S - 1) := by
          rw [ua_I (by omega), gW80, gI_sI, if_pos ⟨rfl, rfl⟩]
        have e0 : ((0 : Nat)) = 0 := rfl
        rw [un]
        simp only [M524, e524_0, e524_5, e524_11, e524_34, e524_114, e524_117, e524_121, Option.getD_some, Option.bind_some, Option.toList_some, Option.toList_none, List.cons_append, List.nil_append, and_self, and_true, true_and, false_and, and_false, ite_self, not_true_eq_false, not_false_eq_true, reduceIte, Nat.reduceEqDiff, ab_I, ab_L, ab_R, ao_I, ao_L, ao_R, gL_sL, gI_sI, gR_sR, gI_sL, gI_sR, gL_sI, gL_sR, gR_sI, gR_sL, n0, t94, h5, g_118, g_123, g_124, b0.1, b0.2, Int.toNat_natCast, k118, c1, Int.reduceLT, Int.reduceLE, show (0 : Int).toNat = 0 from rfl, j1, nF, eF, g12, i1.1, i1.2, e124, n1, t3, t5]
        exact okc_s (jwo_1 ⟨qu, by rw [o80 _ (by decide), h5], fun _ => ⟨ju, o88, o80 _ (by decide), by rw [o80 _ (by decide), h6]⟩⟩)
    · have un : exiJ S t = (7, none, none, t) := by unfold exiJ; rw [if_neg c0, if_pos c1]
      have g3 : ¬ gI (flt σ 7) 80 90 = 0 := by rw [fl_g, h5, fst0]; decide
      rw [un]
      simp only [M524, e524_0, e524_5, e524_11, e524_34, Option.getD_some, Option.bind_some, Option.toList_some, Option.toList_none, List.cons_append, List.nil_append, and_self, and_true, true_and, false_and, and_false, ite_self, not_true_eq_false, not_false_eq_true, reduceIte, Nat.reduceEqDiff, ab_I, ab_L, ab_R, ao_I, ao_L, ao_R, gL_sL, gI_sI, gR_sR, gI_sL, gI_sR, gL_sI, gL_sR, gR_sI, gR_sL, n0, t94, h5, g_118, b0.1, b0.2, Int.toNat_natCast, k118, c1, T473, g3]
      exact okc_s (jwo_f (f := 7) (by decide) rfl ⟨by rw [fl_g, h5, fst0], jq_f⟩)
/-- a comparison's sides stand there -/
def cH (S : ST) (w : B64) (σ ρ : MS) (y : Nat) : Prop := sqc ρ σ ∧ aV ρ 32656 = (rgV S (dR w)) ∧ aV ρ y = (sidJ S w) ∧ (y < 104 ∨ y = 32657 ∨ y = 32663) ∧ (¬ rgt w → y = 32657) ∧ (rgt w → ¬ fS w = 10 → y = 26 * (sF S - 1) + sRr w)
theorem HJ_sqc (H : HJ σ S E t N K l m) (q : sqc ρ σ) : HJ ρ S E t N K l m := by
  obtain ⟨⟨h1, h2, h3, h4⟩, ⟨h5, h6, h7⟩, ⟨h8, h9, h10⟩, ⟨h11, h12⟩, ⟨h13, h14⟩, h15⟩ := H
  refine ⟨⟨JSt_sq q (by omega) h2.1.2 h1, h2, h3, EO_sq q h4⟩, ⟨(sqc_I q (by omega) (by omega)).trans h5, (sqc_I q (by omega) (by omega)).trans h6, h7⟩, ⟨fun k hk => ?_, h9, h10⟩, ⟨(sqc_I q (by omega) (by omega)).trans h11, h12⟩, ⟨(sqc_I q (by omega) (by omega)).trans h13, h14⟩, ?_⟩
  · rw [sqc_I q (by omega) (by omega), sqc_I q (by omega) (by omega), sqc_I q (by omega) (by omega), sqc_I q (by omega) (by omega), sqc_I q (by omega) (by omega)]
    exact h8 k hk
  · rw [sqc_I q (by omega) (by omega)]
    exact h15
theorem jk_t {a b c : MS} (h1 : jk a b) (h2 : jq b c) : jk a c := ⟨fun k s p1 p2 => (h1.1 k s p1 p2).trans (h2.1 k s p1), fun k s p => (h1.2.1 k s p).trans (h2.2.1 k s p), h1.2.2.trans h2.2.2⟩
theorem jwo_sqc {r : JR} (q : sqc ρ σ) (h : jwo ρ τ N K l r) : jwo σ τ N K l r := by
  have e : ∀ s, ¬ (s = 102 ∨ s = 103) → gI ρ 80 s = gI σ 80 s := fun s hs => sqc_I q (by omega) (by omega)
  refine ⟨fun z => ⟨(h.1 z).1, jq_t (h.1 z).2 (jq_sq q)⟩, fun z => ?_⟩
  have h2 := h.2 z
  obtain ⟨f, a, b, t'⟩ := r
  rcases a with _ | ⟨n, S1⟩
  · obtain ⟨p1, p2, p3, p4, p5⟩ := h2
    exact ⟨p1, p2, p3, by rw [← e 83 (by decide)]; exact p4, jk_t p5 (jq_sq q)⟩
  · rcases b with _ | ⟨g', S2⟩
    · obtain ⟨p1, p2, p3⟩ := h2
      refine ⟨jq_t p1 (jq_sq q), p2, fun y => ?_⟩
      obtain ⟨r1, r2, r3, r4⟩ := p3 y
      exact ⟨r1, r2, by rw [r3, e 89 (by decide)], r4⟩
    · show if gI σ 80 78 = 60 then gI τ 80 90 = 12 ∧ jq τ σ else jpt σ τ S1 S2 n g' t'
      have h2 : if gI ρ 80 78 = 60 then gI τ 80 90 = 12 ∧ jq τ ρ else jpt ρ τ S1 S2 n g' t' := h2
      rw [e 78 (by decide)] at h2
      by_cases c : gI σ 80 78 = 60
      · rw [if_pos c] at h2 ⊢
        exact ⟨h2.1, jq_t h2.2 (jq_sq q)⟩
      · rw [if_neg c] at h2 ⊢
        obtain ⟨ρ', p1, p2, p3, p4, p5, p6, p7, p8, p9, p10⟩ := h2
        exact ⟨ρ', jq_t p1 (jq_sq q), p2, p3, p4, p5, p6, p7, p8, by rw [p9, e 89 (by decide)], p10⟩
theorem cmp_6 {w : B64} (ho : isCmpO (fOp w)) : isCmp (fC w) := by
  have f := (fld_rng w).1
  have e : fC w = fOp w / 16 * 16 := rfl
  unfold isCmp
  unfold isCmpO at ho
  omega
set_option maxHeartbeats 2000000 in
theorem T516 (H : HJ σ S E t N K l m) (hw : isCmp (fC w)) (d9 : dR w ≤ 9 ∧ 0 ≤ fD w) (s9 : rgt w → sRr w ≤ 9 ∧ 0 ≤ fS w) (hX : vk (rgV S (dR w)) = 1) (hY : vk (sidJ S w) = 1) (C : cH S w σ ρ y) : okc (MM 516 [mR (some 80), mL w, mI (fC w), mI (b2 (widJ w)), mI g, mI (b2 (rgt w))] ρ) none (fun τ => jwo σ τ N K l (numJ S w g (gI σ 80 88) t)) := by
  obtain ⟨c1, c2, c3, c4, c5, c6⟩ := C
  have Hρ := HJ_sqc H c1
  have H' := Hρ
  obtain ⟨⟨h1, h2, h3, h4⟩, ⟨h5, h6, h7⟩, -, -, -, -⟩ := H'
  have hF := h2.1
  have e88 : gI σ 80 88 = gI ρ 80 88 := (sqc_I c1 (by omega) (by omega)).symm
  have nX : aV ρ (26 * (sF S - 1) + dR w) = numV (vn (rgV S (dR w))) := by
    rw [at_nv h1 hF d9.1]
    exact (can_r h3 hF.1 (show dR w ≤ 10 by omega)).1 hX
  have n1 := at_n h1 hF d9.1
  rw [show ((dR w : Nat) : Int) = fD w by unfold dR; omega] at n1
  have id := at_b (S := S) hF d9.1
  have cY : canV (sidJ S w) := by
    unfold sidJ
    split
    · rename_i r
      exact can_r h3 hF.1 (show sRr w ≤ 10 by have := (s9 r).1; omega)
    · exact can_num _
  have eY : (sidJ S w) = numV (vn (sidJ S w)) := cY.1 hY
  have nY : nH S w ρ (26 * (sF S - 1) + dR w) y := by
    refine ⟨⟨rfl, d9.1⟩, ⟨nX, by rw [c3]; exact eY⟩, ?_⟩
    by_cases r : rgt w
    · rw [if_pos r]
      exact ⟨c6 r (by have := s9 r; unfold sRr at this; omega), (s9 r).1⟩
    · rw [if_neg r]
      exact c5 r
  have iy : inB (y : Int) := ⟨by omega, by omega⟩
  have s29 : MM 516 [mR (some 80), mL w, mI (fC w), mI (b2 (widJ w)), mI g, mI (b2 (rgt w))] ρ = RR (lkB tb516) (B516_29, [some (mR (some 80)), some (mL w), none, some (mI (fC w)), some (mI (b2 (widJ w))), some (mI g), some (mI (b2 (rgt w))), some (mI ((26 * (sF S - 1) + dR w : Nat) : Int)), none, none, none, none, none, none, none, none], [mI (y : Int)], ρ) := by
    by_cases r : rgt w
    · have n2 := at_n h1 hF (s9 r).1
      rw [show ((sRr w : Nat) : Int) = fS w by have := (s9 r).2; unfold sRr; omega, ← c6 r (by have := s9 r; unfold sRr at this; omega)] at n2
      rw [b2_yes r]
      simp only [M516, e516_0, e516_5, e516_8, e516_20, e516_23, Option.getD_some, Option.bind_some, Option.toList_some, Option.toList_none, List.cons_append, List.nil_append, and_self, and_true, true_and, false_and, and_false, ite_self, not_true_eq_false, not_false_eq_true, reduceIte, Nat.reduceEqDiff, ab_I, ab_L, ab_R, ao_I, ao_L, ao_R, gL_sL, gI_sI, gR_sR, gI_sL, gI_sR, gL_sI, gL_sR, gR_sI, gR_sL, T333, T334, n1, n2, oneI]
    · have := c5 r
      rw [b2_no r, this]
      simp only [M516, e516_0, e516_5, e516_8, Option.getD_some, Option.bind_some, Option.toList_some, Option.toList_none, List.cons_append, List.nil_append, and_self, and_true, true_and, false_and, and_false, ite_self, not_true_eq_false, not_false_eq_true, reduceIte, Nat.reduceEqDiff, ab_I, ab_L, ab_R, ao_I, ao_L, ao_R, gL_sL, gI_sI, gR_sR, gI_sL, gI_sR, gL_sI, gL_sR, gR_sI, gR_sL, T333, n1]
      all_goals rfl
  rw [s29]
  generalize ed : 26 * (sF S - 1) + dR w = d at *
  have dec : ∃ ρ', sqc ρ' ρ ∧ nH S w ρ' d y ∧ RR (lkB tb516) (B516_29, [some (mR (some 80)), some (mL w), none, some (mI (fC w)), some (mI (b2 (widJ w))), some (mI g), some (mI (b2 (rgt w))), some (mI (d : Int)), none, none, none, none, none, none, none, none], [mI (y : Int)], ρ) = RR (lkB tb516) (B516_42, [some (mR (some 80)), some (mL w), none, some (mI (fC w)), some (mI (b2 (widJ w))), some (mI g), some (mI (b2 (rgt w))), some (mI (d : Int)), some (mI (y : Int)), none, none, none, none, none, none, none], [mI (decN (fC w) (decide (widJ w)) (vn (rgV S (dR w))) (vn (sidJ S w)))], ρ') := by
    by_cases r : widJ w
    · have t := T457w (σ := ρ) hw id iy
      rw [Int.toNat_natCast, Int.toNat_natCast, nX, c3] at t
      refine ⟨ρ, sqc_r _, nY, ?_⟩
      rw [b2_yes r, decide_eq_true r]
      simp only [e516_29, Option.getD_some, Option.bind_some, Option.toList_some, Option.toList_none, List.cons_append, List.nil_append, and_self, and_true, true_and, false_and, and_false, ite_self, not_true_eq_false, not_false_eq_true, reduceIte, Nat.reduceEqDiff, ab_I, ab_L, ab_R, ao_I, ao_L, ao_R, gL_sL, gI_sI, gR_sR, gI_sL, gI_sR, gL_sI, gL_sR, gR_sI, gR_sL, t]
      all_goals rfl
    · have t := T457n (σ := ρ) hw id iy (by omega)
      rw [Int.toNat_natCast, Int.toNat_natCast, nX, c3] at t
      refine ⟨wrV (wrV ρ 32659 (numV (cutT (vn (numV (vn (rgV S (dR w)))))))) 32660 (numV (cutT (vn (sidJ S w)))), sqc_t (sqc_w (by decide)) (sqc_w (by decide)), nH_w (nH_w nY (by decide) hF.2) (by decide) hF.2, ?_⟩
      rw [b2_no r, decide_eq_false r]
      simp only [e516_29, Option.getD_some, Option.bind_some, Option.toList_some, Option.toList_none, List.cons_append, List.nil_append, and_self, and_true, true_and, false_and, and_false, ite_self, not_true_eq_false, not_false_eq_true, reduceIte, Nat.reduceEqDiff, ab_I, ab_L, ab_R, ao_I, ao_L, ao_R, gL_sL, gI_sI, gR_sR, gI_sL, gI_sR, gL_sI, gL_sR, gR_sI, gR_sL, t]
      all_goals rfl
  obtain ⟨ρ', r1, r2, r3⟩ := dec
  rw [r3]
  have q2 : sqc ρ' σ := sqc_t r1 c1
  rcases dec_3 (fC w) (decide (widJ w)) (vn (rgV S (dR w))) (vn (sidJ S w)) with e | e | e
  · have un : numJ S w g (gI σ 80 88) t = (0, some (g, S), none, t) := by
      unfold numJ
      rw [if_pos e]
    rw [e, un]
    simp only [e516_42, Option.getD_some, Option.bind_some, Option.toList_some, Option.toList_none, List.cons_append, List.nil_append, and_self, and_true, true_and, false_and, and_false, ite_self, not_true_eq_false, not_false_eq_true, reduceIte, Nat.reduceEqDiff, ab_I, ab_L, ab_R, ao_I, ao_L, ao_R, gL_sL, gI_sI, gR_sR, gI_sL, gI_sR, gL_sI, gL_sR, gR_sI, gR_sL, oneI, Int.reduceLT]
    refine okc_s (jwo_1 ⟨jq_t (jq_I (by omega)) (jq_sq q2), ?_, fun _ => ⟨JSt_sI (by omega) (JSt_sq r1 (by omega) hF.2 h1), ?_, ?_, ?_⟩⟩)
    · rw [gI_sI, if_neg (by omega), sqc_I r1 (by omega) (by omega), h5]
    · rw [gI_sI, if_pos ⟨rfl, rfl⟩]
    · rw [gI_sI, if_neg (by omega), sqc_I q2 (by omega) (by omega)]
    · rw [gI_sI, if_neg (by omega), sqc_I r1 (by omega) (by omega), h6]
  · have un : numJ S w g (gI σ 80 88) t = (0, some (gI σ 80 88, S), none, t) := by
      unfold numJ
      rw [e, if_neg (by decide), if_pos rfl]
    rw [e, un]
    simp only [e516_42, Option.getD_some, Option.bind_some, Option.toList_some, Option.toList_none, List.cons_append, List.nil_append, and_self, and_true, true_and, false_and, and_false, ite_self, not_true_eq_false, not_false_eq_true, reduceIte, Nat.reduceEqDiff, ab_I, ab_L, ab_R, ao_I, ao_L, ao_R, gL_sL, gI_sI, gR_sR, gI_sL, gI_sR, gL_sI, gL_sR, gR_sI, gR_sL, oneI, Int.reduceLT, Int.reduceEq]
    refine okc_s (jwo_1 ⟨jq_t (jq_I (by omega)) (jq_sq q2), ?_, fun _ => ⟨JSt_sI (by omega) (JSt_sq r1 (by omega) hF.2 h1), ?_, ?_, ?_⟩⟩)
    · rw [gI_sI, if_neg (by omega), sqc_I r1 (by omega) (by omega), h5]
    · rw [gI_sI, if_pos ⟨rfl, rfl⟩, sqc_I q2 (by omega) (by omega)]
    · rw [gI_sI, if_neg (by omega), sqc_I q2 (by omega) (by omega)]
    · rw [gI_sI, if_neg (by omega), sqc_I r1 (by omega) (by omega), h6]
  · rw [e]
    exact L516 (x9 := 0) H hw q2 r2 e
set_option maxHeartbeats 2000000 in
/-- a comparison whose sides are set -/
theorem L515 (H : HJ σ S E t N K l m) (hw : isCmpO (fOp w)) (hr : dR w ≤ 10 ∧ 0 ≤ fD w) (hs : rgt w → sRr w ≤ 10 ∧ 0 ≤ fS w) (C : cH S w σ ρ y) (k1 : ¬ vk (rgV S (dR w)) = 0) (k2 : ¬ vk (sidJ S w) = 0) : okc (RR (lkB tb515) (B515_193, [some (mR (some 80)), some (mL w), none, some (mI (fOp w)), some (mI g), some (mI (b2 (widJ w))), some (mI (b2 (rgt w))), some (mI (fC w)), some (mI (px : Int)), some (mI (y : Int)), none, none], [], ρ)) none (fun τ => jwo σ τ N K l (cmpJ S w g (gI σ 80 88) t)) := by
  have C' := C
  obtain ⟨c1, c2, c3, c4, c5, c6⟩ := C'
  have Hρ := HJ_sqc H c1
  have H' := Hρ
  obtain ⟨⟨h1, h2, h3, h4⟩, ⟨h5, h6, h7⟩, -, -, -, -⟩ := H'
  have hF := h2.1
  have hc := cmp_6 hw
  have bX : inB 32656 := by decide
  have nX : (32656 : Int).toNat = 32656 := rfl
  have iy : inB (y : Int) := ⟨by omega, by omega⟩
  have e88 : gI ρ 80 88 = gI σ 80 88 := sqc_I c1 (by omega) (by omega)
  have kX : gI ρ 118 32656 = vk (rgV S (dR w)) := by rw [q118, c2]
  have kY : gI ρ 118 y = vk (sidJ S w) := by rw [q118, c3]
  have okX := okV_r h2 hr.1
  have f14 : ∀ (τ' : MS), sqc τ' (flt ρ 14) → cmpJ S w g (gI σ 80 88) t = (14, none, none, t) → jwo σ τ' N K l (cmpJ S w g (gI σ 80 88) t) := fun τ' q e => by
    rw [e]
    exact jwo_f (f := 14) (by decide) rfl ⟨by rw [sqc_I q (by omega) (by omega), fl_g, h5, fst0], jq_t (jq_sq q) (jq_t jq_f (jq_sq c1))⟩
  have f4 : ∀ (τ' : MS), sqc τ' (flt ρ 4) → cmpJ S w g (gI σ 80 88) t = (4, none, none, t) → jwo σ τ' N K l (cmpJ S w g (gI σ 80 88) t) := fun τ' q e => by
    rw [e]
    exact jwo_f (f := 4) (by decide) rfl ⟨by rw [sqc_I q (by omega) (by omega), fl_g, h5, fst0], jq_t (jq_sq q) (jq_t jq_f (jq_sq c1))⟩
  have u0 : cmpJ S w g (gI σ 80 88) t = if vk (rgV S (dR w)) = 1 ∧ vk (sidJ S w) = 1 then numJ S w g (gI σ 80 88) t
      else if ((¬ rgt w ∧ widJ w) ∧ (fC w = 16 ∨ fC w = 80) ∧ fI w = 0) ∧ isMb (rgV S (dR w)) then
        (if fC w = 16 then (0, some (gI σ 80 88, allV S (plcV (vt (rgV S (dR w))))), some (g, becZ S (vt (rgV S (dR w))) (vk (rgV S (dR w)))), t)
         else (0, some (gI σ 80 88, becZ S (vt (rgV S (dR w))) (vk (rgV S (dR w)))), some (g, allV S (plcV (vt (rgV S (dR w))))), t))
      else if (¬ rgt w ∧ widJ w) ∧ (fC w = 16 ∨ fC w = 80) ∧ fI w = 0 then (0, some (if fC w = 80 then g else gI σ 80 88, S), none, t)
      else if isMb (rgV S (dR w)) ∨ isMb (sidJ S w) then (14, none, none, t)
      else if (widJ w ∧ rgt w) ∧ isOrd (fC w) ∧ vk (rgV S (dR w)) = 7 ∧ vk (sidJ S w) = 8 then rchJ S (rgV S (dR w)) (fC w) g (gI σ 80 88) t
      else if (widJ w ∧ rgt w) ∧ isOrd (fC w) ∧ vk (rgV S (dR w)) = 8 ∧ vk (sidJ S w) = 7 then rchJ S (sidJ S w) (turC (fC w)) g (gI σ 80 88) t
      else (4, none, none, t) := by
    unfold cmpJ
    rw [if_neg (fun q => q.elim k1 k2)]
  by_cases A : vk (rgV S (dR w)) = 1 ∧ vk (sidJ S w) = 1
  · rw [if_pos A] at u0
    have d9 : dR w ≤ 9 ∧ 0 ≤ fD w := by
      refine ⟨?_, hr.2⟩
      refine Classical.byContradiction fun q => ?_
      have e : dR w = 10 := by omega
      have := A.1
      rw [e] at this
      exact absurd this (by show ¬ (3 : Int) = 1; decide)
    have s9 : rgt w → sRr w ≤ 9 ∧ 0 ≤ fS w := fun r => by
      refine ⟨?_, (hs r).2⟩
      refine Classical.byContradiction fun q => ?_
      have e : sRr w = 10 := by have := (hs r).1; omega
      have := A.2
      unfold sidJ at this
      rw [if_pos r, e] at this
      exact absurd this (by show ¬ (3 : Int) = 1; decide)
    have t := T516 H hc d9 s9 A.1 A.2 C (g := g)
    rw [← u0] at t
    simp only [e515_193, Option.getD_some, Option.bind_some, Option.toList_some, Option.toList_none, List.cons_append, List.nil_append, and_self, and_true, true_and, false_and, and_false, ite_self, not_true_eq_false, not_false_eq_true, reduceIte, Nat.reduceEqDiff, ab_I, ab_L, ab_R, ao_I, ao_L, ao_R, gL_sL, gI_sI, gR_sR, gI_sL, gI_sR, gL_sI, gL_sR, gR_sI, gR_sL, h5, g_118, Int.reduceLT, Int.reduceLE, nX, kX, A.1, iy.1, iy.2, Int.toNat_natCast, kY, A.2]
    refine okc_b t fun τ q => ?_
    simp only [Option.toList_none, List.nil_append, e515_237]
    exact okc_s q
  · rw [if_neg A] at u0
    have s238 : RR (lkB tb515) (B515_193, [some (mR (some 80)), some (mL w), none, some (mI (fOp w)), some (mI g), some (mI (b2 (widJ w))), some (mI (b2 (rgt w))), some (mI (fC w)), some (mI (px : Int)), some (mI (y : Int)), none, none], [], ρ) = RR (lkB tb515) (B515_238, [some (mR (some 80)), some (mL w), none, some (mI (fOp w)), some (mI g), some (mI (b2 (widJ w))), some (mI (b2 (rgt w))), some (mI (fC w)), some (mI (px : Int)), some (mI (y : Int)), none, none], [], ρ) := by
      by_cases q1 : vk (rgV S (dR w)) = 1
      · have q2 : ¬ vk (sidJ S w) = 1 := fun z => A ⟨q1, z⟩
        simp only [e515_193, Option.getD_some, Option.bind_some, Option.toList_some, Option.toList_none, List.cons_append, List.nil_append, and_self, and_true, true_and, false_and, and_false, ite_self, not_true_eq_false, not_false_eq_true, reduceIte, Nat.reduceEqDiff, ab_I, ab_L, ab_R, ao_I, ao_L, ao_R, gL_sL, gI_sI, gR_sR, gI_sL, gI_sR, gL_sI, gL_sR, gR_sI, gR_sL, h5, g_118, Int.reduceLT, Int.reduceLE, nX, kX, q1, iy.1, iy.2, Int.toNat_natCast, kY, q2]
      · simp only [e515_193, Option.getD_some, Option.bind_some, Option.toList_some, Option.toList_none, List.cons_append, List.nil_append, and_self, and_true, true_and, false_and, and_false, ite_self, not_true_eq_false, not_false_eq_true, reduceIte, Nat.reduceEqDiff, ab_I, ab_L, ab_R, ao_I, ao_L, ao_R, gL_sL, gI_sI, gR_sR, gI_sL, gI_sR, gL_sI, gL_sR, gR_sI, gR_sL, h5, g_118, Int.reduceLT, Int.reduceLE, nX, kX, q1]
    have s274 : RR (lkB tb515) (B515_238, [some (mR (some 80)), some (mL w), none, some (mI (fOp w)), some (mI g), some (mI (b2 (widJ w))), some (mI (b2 (rgt w))), some (mI (fC w)), some (mI (px : Int)), some (mI (y : Int)), none, none], [], ρ) = RR (lkB tb515) (B515_274, [some (mR (some 80)), some (mL w), none, some (mI (fOp w)), some (mI g), some (mI (b2 (widJ w))), some (mI (b2 (rgt w))), some (mI (fC w)), some (mI (px : Int)), some (mI (y : Int)), none, none], [mI (b2 ((¬ rgt w ∧ widJ w) ∧ (fC w = 16 ∨ fC w = 80) ∧ fI w = 0))], ρ) := by
      by_cases r : rgt w
      · rw [b2_no (p := (¬ rgt w ∧ widJ w) ∧ _) (fun z => z.1.1 r)]
        simp only [e515_238, e515_273, Option.getD_some, Option.bind_some, Option.toList_some, Option.toList_none, List.cons_append, List.nil_append, and_self, and_true, true_and, false_and, and_false, ite_self, not_true_eq_false, not_false_eq_true, reduceIte, Nat.reduceEqDiff, ab_I, ab_L, ab_R, ao_I, ao_L, ao_R, gL_sL, gI_sI, gR_sR, gI_sL, gI_sR, gL_sI, gL_sR, gR_sI, gR_sL, b2_0', b2_n', eq_true r]
      · by_cases wd : widJ w
        · by_cases c16 : fC w = 16
          · by_cases i0 : fI w = 0
            · rw [b2_yes (p := (¬ rgt w ∧ widJ w) ∧ _) ⟨⟨r, wd⟩, Or.inl c16, i0⟩]
              simp only [e515_238, e515_262, e515_266, Option.getD_some, Option.bind_some, Option.toList_some, Option.toList_none, List.cons_append, List.nil_append, and_self, and_true, true_and, false_and, and_false, ite_self, not_true_eq_false, not_false_eq_true, reduceIte, Nat.reduceEqDiff, ab_I, ab_L, ab_R, ao_I, ao_L, ao_R, gL_sL, gI_sI, gR_sR, gI_sL, gI_sR, gL_sI, gL_sR, gR_sI, gR_sL, b2_0', b2_n', r, eq_true wd, eq_true c16, T336, i0]
            · rw [b2_no (p := (¬ rgt w ∧ widJ w) ∧ _) (fun z => i0 z.2.2)]
              simp only [e515_238, e515_262, e515_266, e515_273, Option.getD_some, Option.bind_some, Option.toList_some, Option.toList_none, List.cons_append, List.nil_append, and_self, and_true, true_and, false_and, and_false, ite_self, not_true_eq_false, not_false_eq_true, reduceIte, Nat.reduceEqDiff, ab_I, ab_L, ab_R, ao_I, ao_L, ao_R, gL_sL, gI_sI, gR_sR, gI_sL, gI_sR, gL_sI, gL_sR, gR_sI, gR_sL, b2_0', b2_n', r, eq_true wd, eq_true c16, T336, i0]
          · by_cases c80 : fC w = 80
            · by_cases i0 : fI w = 0
              · rw [b2_yes (p := (¬ rgt w ∧ widJ w) ∧ _) ⟨⟨r, wd⟩, Or.inr c80, i0⟩]
                simp only [e515_238, e515_262, e515_266, Option.getD_some, Option.bind_some, Option.toList_some, Option.toList_none, List.cons_append, List.nil_append, and_self, and_true, true_and, false_and, and_false, ite_self, not_true_eq_false, not_false_eq_true, reduceIte, Nat.reduceEqDiff, ab_I, ab_L, ab_R, ao_I, ao_L, ao_R, gL_sL, gI_sI, gR_sR, gI_sL, gI_sR, gL_sI, gL_sR, gR_sI, gR_sL, b2_0', b2_n', r, eq_true wd, c16, eq_true c80, T336, i0]
              · rw [b2_no (p := (¬ rgt w ∧ widJ w) ∧ _) (fun z => i0 z.2.2)]
                simp only [e515_238, e515_262, e515_266, e515_273, Option.getD_some, Option.bind_some, Option.toList_some, Option.toList_none, List.cons_append, List.nil_append, and_self, and_true, true_and, false_and, and_false, ite_self, not_true_eq_false, not_false_eq_true, reduceIte, Nat.reduceEqDiff, ab_I, ab_L, ab_R, ao_I, ao_L, ao_R, gL_sL, gI_sI, gR_sR, gI_sL, gI_sR, gL_sI, gL_sR, gR_sI, gR_sL, b2_0', b2_n', r, eq_true wd, c16, eq_true c80, T336, i0]
            · rw [b2_no (p := (¬ rgt w ∧ widJ w) ∧ _) (fun z => z.2.1.elim c16 c80)]
              simp only [e515_238, e515_273, Option.getD_some, Option.bind_some, Option.toList_some, Option.toList_none, List.cons_append, List.nil_append, and_self, and_true, true_and, false_and, and_false, ite_self, not_true_eq_false, not_false_eq_true, reduceIte, Nat.reduceEqDiff, ab_I, ab_L, ab_R, ao_I, ao_L, ao_R, gL_sL, gI_sI, gR_sR, gI_sL, gI_sR, gL_sI, gL_sR, gR_sI, gR_sL, b2_0', b2_n', r, eq_true wd, c16, c80]
        · rw [b2_no (p := (¬ rgt w ∧ widJ w) ∧ _) (fun z => wd z.1.2)]
          simp only [e515_238, e515_273, Option.getD_some, Option.bind_some, Option.toList_some, Option.toList_none, List.cons_append, List.nil_append, and_self, and_true, true_and, false_and, and_false, ite_self, not_true_eq_false, not_false_eq_true, reduceIte, Nat.reduceEqDiff, ab_I, ab_L, ab_R, ao_I, ao_L, ao_R, gL_sL, gI_sI, gR_sR, gI_sL, gI_sR, gL_sI, gL_sR, gR_sI, gR_sL, b2_0', b2_n', r, wd]
    rw [s238, s274]
    have t93 := T493 (σ := ρ) bX
    rw [nX, c2] at t93
    have t93y := T493 (σ := ρ) iy
    rw [Int.toNat_natCast, c3] at t93y
    by_cases Z : (¬ rgt w ∧ widJ w) ∧ (fC w = 16 ∨ fC w = 80) ∧ fI w = 0
    · rw [b2_yes Z]
      by_cases mX : isMb (rgV S (dR w))
      · rw [if_pos ⟨Z, mX⟩] at u0
        have t := T517 Hρ c2 Z.2.1 (g := g)
        have s : RR (lkB tb515) (B515_274, [some (mR (some 80)), some (mL w), none, some (mI (fOp w)), some (mI g), some (mI (b2 (widJ w))), some (mI (b2 (rgt w))), some (mI (fC w)), some (mI (px : Int)), some (mI (y : Int)), none, none], [mI 1], ρ) = (MM 517 [mR (some 80), mI (fC w), mI g] ρ).bind fun q => RR (lkB tb515) (B515_299, [some (mR (some 80)), some (mL w), none, some (mI (fOp w)), some (mI g), some (mI (b2 (widJ w))), some (mI (b2 (rgt w))), some (mI (fC w)), some (mI (px : Int)), some (mI (y : Int)), some (mI 1), none], q.1.toList ++ [], q.2) := by
          simp only [e515_274, e515_288, Option.getD_some, Option.bind_some, Option.toList_some, Option.toList_none, List.cons_append, List.nil_append, and_self, and_true, true_and, false_and, and_false, ite_self, not_true_eq_false, not_false_eq_true, reduceIte, Nat.reduceEqDiff, ab_I, ab_L, ab_R, ao_I, ao_L, ao_R, gL_sL, gI_sI, gR_sR, gI_sL, gI_sR, gL_sI, gL_sR, gR_sI, gR_sL, oneI, t93, b2_0', mX]
        rw [s]
        refine okc_b t fun τ q => ?_
        simp only [Option.toList_none, List.nil_append, e515_299, e515_563]
        refine okc_s (jwo_sqc c1 ?_)
        rw [u0, ← e88]
        by_cases c16 : fC w = 16
        · rw [if_pos c16]
          rw [if_pos c16, if_pos c16] at q
          exact jwo_2 q
        · rw [if_neg c16]
          rw [if_neg c16, if_neg c16] at q
          exact jwo_2 q
      · rw [if_neg (fun z => mX z.2), if_pos Z] at u0
        have s302 : RR (lkB tb515) (B515_274, [some (mR (some 80)), some (mL w), none, some (mI (fOp w)), some (mI g), some (mI (b2 (widJ w))), some (mI (b2 (rgt w))), some (mI (fC w)), some (mI (px : Int)), some (mI (y : Int)), none, none], [mI 1], ρ) = RR (lkB tb515) (B515_302, [some (mR (some 80)), some (mL w), none, some (mI (fOp w)), some (mI g), some (mI (b2 (widJ w))), some (mI (b2 (rgt w))), some (mI (fC w)), some (mI (px : Int)), some (mI (y : Int)), some (mI 1), none], [], ρ) := by
          simp only [e515_274, e515_288, Option.getD_some, Option.bind_some, Option.toList_some, Option.toList_none, List.cons_append, List.nil_append, and_self, and_true, true_and, false_and, and_false, ite_self, not_true_eq_false, not_false_eq_true, reduceIte, Nat.reduceEqDiff, ab_I, ab_L, ab_R, ao_I, ao_L, ao_R, gL_sL, gI_sI, gR_sR, gI_sL, gI_sR, gL_sI, gL_sR, gR_sI, gR_sL, oneI, t93, b2_0', mX]
        rw [s302, u0]
        have fin : ∀ n : Int, jpo σ (sI ρ 80 88 n) 0 S n (gI σ 80 89) t := fun n => by
          refine ⟨jq_t (jq_I (by omega)) (jq_sq c1), ?_, fun _ => ⟨JSt_sI (by omega) h1, ?_, ?_, ?_⟩⟩
          · rw [gI_sI, if_neg (by omega), h5]
          · rw [gI_sI, if_pos ⟨rfl, rfl⟩]
          · rw [gI_sI, if_neg (by omega), sqc_I c1 (by omega) (by omega)]
          · rw [gI_sI, if_neg (by omega), h6]
        by_cases c80 : fC w = 80
        · rw [if_pos c80]
          simp only [e515_302, e515_324, e515_563, Option.getD_some, Option.bind_some, Option.toList_some, Option.toList_none, List.cons_append, List.nil_append, and_self, and_true, true_and, false_and, and_false, ite_self, not_true_eq_false, not_false_eq_true, reduceIte, Nat.reduceEqDiff, ab_I, ab_L, ab_R, ao_I, ao_L, ao_R, gL_sL, gI_sI, gR_sR, gI_sL, gI_sR, gL_sI, gL_sR, gR_sI, gR_sL, oneI, c80]
          exact okc_s (jwo_1 (fin _))
        · rw [if_neg c80]
          simp only [e515_302, e515_324, e515_563, Option.getD_some, Option.bind_some, Option.toList_some, Option.toList_none, List.cons_append, List.nil_append, and_self, and_true, true_and, false_and, and_false, ite_self, not_true_eq_false, not_false_eq_true, reduceIte, Nat.reduceEqDiff, ab_I, ab_L, ab_R, ao_I, ao_L, ao_R, gL_sL, gI_sI, gR_sR, gI_sL, gI_sR, gL_sI, gL_sR, gR_sI, gR_sL, oneI, c80, e88]
          exact okc_s (jwo_1 (fin _))
    · rw [b2_no Z]
      rw [if_neg (fun z => Z z.1), if_neg Z] at u0
      have s302 : RR (lkB tb515) (B515_274, [some (mR (some 80)), some (mL w), none, some (mI (fOp w)), some (mI g), some (mI (b2 (widJ w))), some (mI (b2 (rgt w))), some (mI (fC w)), some (mI (px : Int)), some (mI (y : Int)), none, none], [mI 0], ρ) = RR (lkB tb515) (B515_302, [some (mR (some 80)), some (mL w), none, some (mI (fOp w)), some (mI g), some (mI (b2 (widJ w))), some (mI (b2 (rgt w))), some (mI (fC w)), some (mI (px : Int)), some (mI (y : Int)), some (mI 0), none], [], ρ) := by
        simp only [e515_274, Option.getD_some, Option.bind_some, Option.toList_some, Option.toList_none, List.cons_append, List.nil_append, and_self, and_true, true_and, false_and, and_false, ite_self, not_true_eq_false, not_false_eq_true, reduceIte, Nat.reduceEqDiff, ab_I, ab_L, ab_R, ao_I, ao_L, ao_R, gL_sL, gI_sI, gR_sR, gI_sL, gI_sR, gL_sI, gL_sR, gR_sI, gR_sL]
      rw [s302]
      by_cases mX : isMb (rgV S (dR w))
      · rw [if_pos (Or.inl mX)] at u0
        simp only [e515_302, e515_337, e515_349, e515_355, e515_563, Option.getD_some, Option.bind_some, Option.toList_some, Option.toList_none, List.cons_append, List.nil_append, and_self, and_true, true_and, false_and, and_false, ite_self, not_true_eq_false, not_false_eq_true, reduceIte, Nat.reduceEqDiff, ab_I, ab_L, ab_R, ao_I, ao_L, ao_R, gL_sL, gI_sI, gR_sR, gI_sL, gI_sR, gL_sI, gL_sR, gR_sI, gR_sL, t93, b2_n', mX, T473]
        exact okc_s (f14 _ (sqc_r _) u0)
      · by_cases mY : isMb (sidJ S w)
        · rw [if_pos (Or.inr mY)] at u0
          simp only [e515_302, e515_337, e515_346, e515_349, e515_355, e515_563, Option.getD_some, Option.bind_some, Option.toList_some, Option.toList_none, List.cons_append, List.nil_append, and_self, and_true, true_and, false_and, and_false, ite_self, not_true_eq_false, not_false_eq_true, reduceIte, Nat.reduceEqDiff, ab_I, ab_L, ab_R, ao_I, ao_L, ao_R, gL_sL, gI_sI, gR_sR, gI_sL, gI_sR, gL_sI, gL_sR, gR_sI, gR_sL, t93, t93y, b2_n', b2_0', mX, mY, T473]
          exact okc_s (f14 _ (sqc_r _) u0)
        · rw [if_neg (fun z => z.elim mX mY)] at u0
          have s346 : RR (lkB tb515) (B515_302, [some (mR (some 80)), some (mL w), none, some (mI (fOp w)), some (mI g), some (mI (b2 (widJ w))), some (mI (b2 (rgt w))), some (mI (fC w)), some (mI (px : Int)), some (mI (y : Int)), some (mI 0), none], [], ρ) = RR (lkB tb515) (B515_346, [some (mR (some 80)), some (mL w), none, some (mI (fOp w)), some (mI g), some (mI (b2 (widJ w))), some (mI (b2 (rgt w))), some (mI (fC w)), some (mI (px : Int)), some (mI (y : Int)), some (mI 0), none], [mI 0], ρ) := by
            have e0 : b2 (isMb (sidJ S w)) = 0 := b2_no mY
            simp only [e515_302, e515_337, Option.getD_some, Option.bind_some, Option.toList_some, Option.toList_none, List.cons_append, List.nil_append, and_self, and_true, true_and, false_and, and_false, ite_self, not_true_eq_false, not_false_eq_true, reduceIte, Nat.reduceEqDiff, ab_I, ab_L, ab_R, ao_I, ao_L, ao_R, gL_sL, gI_sI, gR_sR, gI_sL, gI_sR, gL_sI, gL_sR, gR_sI, gR_sL, t93, t93y, b2_n', mX, e0]
          rw [s346]
          by_cases O : (widJ w ∧ rgt w) ∧ isOrd (fC w)
          · have s398 : RR (lkB tb515) (B515_346, [some (mR (some 80)), some (mL w), none, some (mI (fOp w)), some (mI g), some (mI (b2 (widJ w))), some (mI (b2 (rgt w))), some (mI (fC w)), some (mI (px : Int)), some (mI (y : Int)), some (mI 0), none], [mI 0], ρ) = RR (lkB tb515) (B515_398, [some (mR (some 80)), some (mL w), none, some (mI (fOp w)), some (mI g), some (mI (b2 (widJ w))), some (mI (b2 (rgt w))), some (mI (fC w)), some (mI (px : Int)), some (mI (y : Int)), some (mI 0), none], [], ρ) := by
              obtain ⟨⟨o1, o2⟩, o3⟩ := O
              rcases o3 with o3 | o3 | o3 | o3
              all_goals simp only [e515_346, Option.getD_some, Option.bind_some, Option.toList_some, Option.toList_none, List.cons_append, List.nil_append, and_self, and_true, true_and, false_and, and_false, ite_self, not_true_eq_false, not_false_eq_true, reduceIte, Nat.reduceEqDiff, ab_I, ab_L, ab_R, ao_I, ao_L, ao_R, gL_sL, gI_sI, gR_sR, gI_sL, gI_sR, gL_sI, gL_sR, gR_sI, gR_sL, b2_0', b2_n', eq_true o1, eq_true o2, o3, Int.reduceEq]
            rw [s398]
            by_cases P : vk (rgV S (dR w)) = 7 ∧ vk (sidJ S w) = 8
            · rw [if_pos ⟨O.1, O.2, P⟩] at u0
              have t := T521 Hρ c2 (okX.2.1 (Or.inr (Or.inr (Or.inl P.1)))) O.2 (g := g)
              have s : RR (lkB tb515) (B515_398, [some (mR (some 80)), some (mL w), none, some (mI (fOp w)), some (mI g), some (mI (b2 (widJ w))), some (mI (b2 (rgt w))), some (mI (fC w)), some (mI (px : Int)), some (mI (y : Int)), some (mI 0), none], [], ρ) = (MM 521 [mR (some 80), mI (fC w), mI g] ρ).bind fun q => RR (lkB tb515) (B515_431, [some (mR (some 80)), some (mL w), none, some (mI (fOp w)), some (mI g), some (mI (b2 (widJ w))), some (mI (b2 (rgt w))), some (mI (fC w)), some (mI (px : Int)), some (mI (y : Int)), some (mI 0), none], q.1.toList ++ [], q.2) := by
                simp only [e515_398, Option.getD_some, Option.bind_some, Option.toList_some, Option.toList_none, List.cons_append, List.nil_append, and_self, and_true, true_and, false_and, and_false, ite_self, not_true_eq_false, not_false_eq_true, reduceIte, Nat.reduceEqDiff, ab_I, ab_L, ab_R, ao_I, ao_L, ao_R, gL_sL, gI_sI, gR_sR, gI_sL, gI_sR, gL_sI, gL_sR, gR_sI, gR_sL, g_118, Int.reduceLT, Int.reduceLE, nX, kX, P.1, iy.1, iy.2, Int.toNat_natCast, kY, P.2]
              rw [s]
              refine okc_b t fun τ q => ?_
              simp only [Option.toList_none, List.nil_append, e515_431, e515_563]
              refine okc_s (jwo_sqc c1 ?_)
              rw [u0, ← e88]
              exact jwo_2 q
            · rw [if_neg (fun z => P z.2.2)] at u0
              have s434 : RR (lkB tb515) (B515_398, [some (mR (some 80)), some (mL w), none, some (mI (fOp w)), some (mI g), some (mI (b2 (widJ w))), some (mI (b2 (rgt w))), some (mI (fC w)), some (mI (px : Int)), some (mI (y : Int)), some (mI 0), none], [], ρ) = RR (lkB tb515) (B515_434, [some (mR (some 80)), some (mL w), none, some (mI (fOp w)), some (mI g), some (mI (b2 (widJ w))), some (mI (b2 (rgt w))), some (mI (fC w)), some (mI (px : Int)), some (mI (y : Int)), some (mI 0), none], [], ρ) := by
                by_cases q1 : vk (rgV S (dR w)) = 7
                · have q2 : ¬ vk (sidJ S w) = 8 := fun z => P ⟨q1, z⟩
                  simp only [e515_398, Option.getD_some, Option.bind_some, Option.toList_some, Option.toList_none, List.cons_append, List.nil_append, and_self, and_true, true_and, false_and, and_false, ite_self, not_true_eq_false, not_false_eq_true, reduceIte, Nat.reduceEqDiff, ab_I, ab_L, ab_R, ao_I, ao_L, ao_R, gL_sL, gI_sI, gR_sR, gI_sL, gI_sR, gL_sI, gL_sR, gR_sI, gR_sL, g_118, Int.reduceLT, Int.reduceLE, nX, kX, q1, iy.1, iy.2, Int.toNat_natCast, kY, q2]
                · simp only [e515_398, Option.getD_some, Option.bind_some, Option.toList_some, Option.toList_none, List.cons_append, List.nil_append, and_self, and_true, true_and, false_and, and_false, ite_self, not_true_eq_false, not_false_eq_true, reduceIte, Nat.reduceEqDiff, ab_I, ab_L, ab_R, ao_I, ao_L, ao_R, gL_sL, gI_sI, gR_sR, gI_sL, gI_sR, gL_sI, gL_sR, gR_sI, gR_sL, g_118, Int.reduceLT, Int.reduceLE, nX, kX, q1]
              have s474 : RR (lkB tb515) (B515_434, [some (mR (some 80)), some (mL w), none, some (mI (fOp w)), some (mI g), some (mI (b2 (widJ w))), some (mI (b2 (rgt w))), some (mI (fC w)), some (mI (px : Int)), some (mI (y : Int)), some (mI 0), none], [], ρ) = RR (lkB tb515) (B515_474, [some (mR (some 80)), some (mL w), none, some (mI (fOp w)), some (mI g), some (mI (b2 (widJ w))), some (mI (b2 (rgt w))), some (mI (fC w)), some (mI (px : Int)), some (mI (y : Int)), some (mI 0), none], [], ρ) := by
                obtain ⟨⟨o1, o2⟩, o3⟩ := O
                rcases o3 with o3 | o3 | o3 | o3
                all_goals simp only [e515_434, Option.getD_some, Option.bind_some, Option.toList_some, Option.toList_none, List.cons_append, List.nil_append, and_self, and_true, true_and, false_and, and_false, ite_self, not_true_eq_false, not_false_eq_true, reduceIte, Nat.reduceEqDiff, ab_I, ab_L, ab_R, ao_I, ao_L, ao_R, gL_sL, gI_sI, gR_sR, gI_sL, gI_sR, gL_sI, gL_sR, gR_sI, gR_sL, b2_0', b2_n', eq_true o1, eq_true o2, o3, Int.reduceEq]
              rw [s434, s474]
              by_cases Q : vk (rgV S (dR w)) = 8 ∧ vk (sidJ S w) = 7
              · rw [if_pos ⟨O.1, O.2, Q⟩] at u0
                have rY : rgt w := O.1.2
                have eYr : (sidJ S w) = rgV S (sRr w) := if_pos rY
                have okY := okV_r h2 (hs rY).1
                rw [← eYr] at okY
                have t30 := T430 (σ := ρ) iy bX (by rw [Int.toNat_natCast, c3]; have := okY.1; omega)
                rw [Int.toNat_natCast, c3, nX] at t30
                have q3 : sqc (wrV ρ 32656 (sidJ S w)) ρ := sqc_w (by decide)
                have t := T521 (HJ_sqc Hρ q3) (P := (sidJ S w)) aV_same (okY.2.1 (Or.inr (Or.inr (Or.inl Q.2)))) (c := turC (fC w)) (by
                  unfold turC isOrd
                  rcases O.2 with o | o | o | o <;> rw [o] <;> decide) (g := g)
                have s : RR (lkB tb515) (B515_474, [some (mR (some 80)), some (mL w), none, some (mI (fOp w)), some (mI g), some (mI (b2 (widJ w))), some (mI (b2 (rgt w))), some (mI (fC w)), some (mI (px : Int)), some (mI (y : Int)), some (mI 0), none], [], ρ) = RR (lkB tb515) (B515_550, [some (mR (some 80)), some (mL w), none, some (mI (fOp w)), some (mI g), some (mI (b2 (widJ w))), some (mI (b2 (rgt w))), some (mI (fC w)), some (mI (px : Int)), some (mI (y : Int)), some (mI 0), none], [mI (turC (fC w)), mR (some 80)], wrV ρ 32656 (sidJ S w)) := by
                  rcases O.2 with o | o | o | o
                  all_goals (simp only [e515_474, e515_508, Option.getD_some, Option.bind_some, Option.toList_some, Option.toList_none, List.cons_append, List.nil_append, and_self, and_true, true_and, false_and, and_false, ite_self, not_true_eq_false, not_false_eq_true, reduceIte, Nat.reduceEqDiff, ab_I, ab_L, ab_R, ao_I, ao_L, ao_R, gL_sL, gI_sI, gR_sR, gI_sL, gI_sR, gL_sI, gL_sR, gR_sI, gR_sL, g_118, Int.reduceLT, Int.reduceLE, nX, kX, Q.1, iy.1, iy.2, Int.toNat_natCast, kY, Q.2, t30, o, Int.reduceEq, turC])
                rw [s]
                simp only [e515_550]
                refine okc_b t fun τ q => ?_
                simp only [Option.toList_none, List.nil_append, e515_555, e515_563]
                refine okc_s (jwo_sqc (sqc_t q3 c1) ?_)
                rw [u0, show gI σ 80 88 = gI (wrV ρ 32656 (sidJ S w)) 80 88 by rw [gW80, e88]]
                exact jwo_2 q
              · rw [if_neg (fun z => Q z.2.2)] at u0
                have s558 : RR (lkB tb515) (B515_474, [some (mR (some 80)), some (mL w), none, some (mI (fOp w)), some (mI g), some (mI (b2 (widJ w))), some (mI (b2 (rgt w))), some (mI (fC w)), some (mI (px : Int)), some (mI (y : Int)), some (mI 0), none], [], ρ) = RR (lkB tb515) (B515_558, [some (mR (some 80)), some (mL w), none, some (mI (fOp w)), some (mI g), some (mI (b2 (widJ w))), some (mI (b2 (rgt w))), some (mI (fC w)), some (mI (px : Int)), some (mI (y : Int)), some (mI 0), none], [], ρ) := by
                  by_cases q1 : vk (rgV S (dR w)) = 8
                  · have q2 : ¬ vk (sidJ S w) = 7 := fun z => Q ⟨q1, z⟩
                    simp only [e515_474, Option.getD_some, Option.bind_some, Option.toList_some, Option.toList_none, List.cons_append, List.nil_append, and_self, and_true, true_and, false_and, and_false, ite_self, not_true_eq_false, not_false_eq_true, reduceIte, Nat.reduceEqDiff, ab_I, ab_L, ab_R, ao_I, ao_L, ao_R, gL_sL, gI_sI, gR_sR, gI_sL, gI_sR, gL_sI, gL_sR, gR_sI, gR_sL, g_118, Int.reduceLT, Int.reduceLE, nX, kX, q1, iy.1, iy.2, Int.toNat_natCast, kY, q2]
                  · simp only [e515_474, Option.getD_some, Option.bind_some, Option.toList_some, Option.toList_none, List.cons_append, List.nil_append, and_self, and_true, true_and, false_and, and_false, ite_self, not_true_eq_false, not_false_eq_true, reduceIte, Nat.reduceEqDiff, ab_I, ab_L, ab_R, ao_I, ao_L, ao_R, gL_sL, gI_sI, gR_sR, gI_sL, gI_sR, gL_sI, gL_sR, gR_sI, gR_sL, g_118, Int.reduceLT, Int.reduceLE, nX, kX, q1]
                rw [s558]
                simp only [e515_558, e515_563, Option.getD_some, Option.bind_some, Option.toList_some, Option.toList_none, List.cons_append, List.nil_append, and_self, and_true, true_and, false_and, and_false, ite_self, not_true_eq_false, not_false_eq_true, reduceIte, Nat.reduceEqDiff, ab_I, ab_L, ab_R, ao_I, ao_L, ao_R, gL_sL, gI_sI, gR_sR, gI_sL, gI_sR, gL_sI, gL_sR, gR_sI, gR_sL, T473]
                exact okc_s (f4 _ (sqc_r _) u0)
          · rw [if_neg (fun z => O ⟨z.1, z.2.1⟩), if_neg (fun z => O ⟨z.1, z.2.1⟩)] at u0
            have s558 : RR (lkB tb515) (B515_346, [some (mR (some 80)), some (mL w), none, some (mI (fOp w)), some (mI g), some (mI (b2 (widJ w))), some (mI (b2 (rgt w))), some (mI (fC w)), some (mI (px : Int)), some (mI (y : Int)), some (mI 0), none], [mI 0], ρ) = RR (lkB tb515) (B515_558, [some (mR (some 80)), some (mL w), none, some (mI (fOp w)), some (mI g), some (mI (b2 (widJ w))), some (mI (b2 (rgt w))), some (mI (fC w)), some (mI (px : Int)), some (mI (y : Int)), some (mI 0), none], [], ρ) := by
              by_cases o1 : widJ w
              · by_cases o2 : rgt w
                · have o3 : ¬ isOrd (fC w) := fun z => O ⟨⟨o1, o2⟩, z⟩
                  have p1 : ¬ fC w = 32 := fun z => o3 (Or.inl z)
                  have p2 : ¬ fC w = 48 := fun z => o3 (Or.inr (Or.inl z))
                  have p3 : ¬ fC w = 160 := fun z => o3 (Or.inr (Or.inr (Or.inl z)))
                  have p4 : ¬ fC w = 176 := fun z => o3 (Or.inr (Or.inr (Or.inr z)))
                  simp only [e515_346, e515_434, Option.getD_some, Option.bind_some, Option.toList_some, Option.toList_none, List.cons_append, List.nil_append, and_self, and_true, true_and, false_and, and_false, ite_self, not_true_eq_false, not_false_eq_true, reduceIte, Nat.reduceEqDiff, ab_I, ab_L, ab_R, ao_I, ao_L, ao_R, gL_sL, gI_sI, gR_sR, gI_sL, gI_sR, gL_sI, gL_sR, gR_sI, gR_sL, b2_0', b2_n', eq_true o1, eq_true o2, p1, p2, p3, p4]
                · simp only [e515_346, e515_434, Option.getD_some, Option.bind_some, Option.toList_some, Option.toList_none, List.cons_append, List.nil_append, and_self, and_true, true_and, false_and, and_false, ite_self, not_true_eq_false, not_false_eq_true, reduceIte, Nat.reduceEqDiff, ab_I, ab_L, ab_R, ao_I, ao_L, ao_R, gL_sL, gI_sI, gR_sR, gI_sL, gI_sR, gL_sI, gL_sR, gR_sI, gR_sL, b2_0', b2_n', eq_true o1, o2]
              · simp only [e515_346, e515_434, Option.getD_some, Option.bind_some, Option.toList_some, Option.toList_none, List.cons_append, List.nil_append, and_self, and_true, true_and, false_and, and_false, ite_self, not_true_eq_false, not_false_eq_true, reduceIte, Nat.reduceEqDiff, ab_I, ab_L, ab_R, ao_I, ao_L, ao_R, gL_sL, gI_sI, gR_sR, gI_sL, gI_sR, gL_sI, gL_sR, gR_sI, gR_sL, b2_0', b2_n', o1]
            rw [s558]
            simp only [e515_558, e515_563, Option.getD_some, Option.bind_some, Option.toList_some, Option.toList_none, List.cons_append, List.nil_append, and_self, and_true, true_and, false_and, and_false, ite_self, not_true_eq_false, not_false_eq_true, reduceIte, Nat.reduceEqDiff, ab_I, ab_L, ab_R, ao_I, ao_L, ao_R, gL_sL, gI_sI, gR_sR, gI_sL, gI_sR, gL_sI, gL_sR, gR_sI, gR_sL, T473]
            exact okc_s (f4 _ (sqc_r _) u0)
end JMP
