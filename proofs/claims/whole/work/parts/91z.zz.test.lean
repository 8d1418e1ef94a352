-- FILE 92.cgj
/-! ===== the class's jumps ===== -/
section CGJ
variable {τ σ ρ : MS} {k j : Nat} {E : EV} {w : B64} {S T : ST} {t n g : Int} {x y : N6} {i : Int}
theorem T241f (H : SC σ k j E w) (f3 : gI σ k 3 = (sF S : Int)) (hF : 1 ≤ sF S ∧ sF S ≤ 4) (hd : fD w ≤ 10) : MM 241 [mR (some 40)] σ = some (some (mI ((pR S (dR w) : Nat) : Int)), σ) := by
  have f := (fld_rng w).2.1
  have e : (dR w : Int) = fD w := by show ((fD w).toNat : Int) = _; omega
  have t := T212 (r := dR w) (sc_k H) f3 hF (dR_10 hd)
  rw [e] at t
  simp only [M241, e241_0, e241_11, e241_14, Option.getD_some, Option.bind_some, Option.toList_some, Option.toList_none, List.cons_append, List.nil_append, and_self, and_true, true_and, false_and, and_false, ite_self, not_true_eq_false, not_false_eq_true, reduceIte, Nat.reduceEqDiff, ab_I, ab_L, ab_R, ao_I, ao_L, ao_R, gL_sL, gI_sI, gR_sR, gI_sL, gI_sR, gL_sI, gL_sR, gR_sI, gR_sL, sc_w H, T1, sc_h H, sc_ao H, t]
theorem T242f (H : SC σ k j E w) (f3 : gI σ k 3 = (sF S : Int)) (hF : 1 ≤ sF S ∧ sF S ≤ 4) (hs : fS w ≤ 10) : MM 242 [mR (some 40)] σ = some (some (mI ((pR S (sRr w) : Nat) : Int)), σ) := by
  have f := (fld_rng w).2.2.1
  have e : (sRr w : Int) = fS w := by show ((fS w).toNat : Int) = _; omega
  have t := T212 (r := sRr w) (sc_k H) f3 hF (sR_10 hs)
  rw [e] at t
  simp only [M242, e242_0, e242_11, e242_14, Option.getD_some, Option.bind_some, Option.toList_some, Option.toList_none, List.cons_append, List.nil_append, and_self, and_true, true_and, false_and, and_false, ite_self, not_true_eq_false, not_false_eq_true, reduceIte, Nat.reduceEqDiff, ab_I, ab_L, ab_R, ao_I, ao_L, ao_R, gL_sL, gI_sI, gR_sR, gI_sL, gI_sR, gL_sI, gL_sR, gR_sI, gR_sL, sc_w H, T2, sc_h H, sc_ao H, t]
theorem sfq_j (hd : k + 3 < j ∨ j + 3 < k) (q : csq τ σ j) : sfq τ σ k j := ⟨fun k' s _ _ r => q.1 k' s (by omega) (by omega) (by omega), fun k' s _ _ r => q.2.1 k' s r, fun k' s _ => gR_r q.2.2, by rw [q.2.2]⟩
/-- the sides come to a state -/
theorem T281 {s p q : Nat} {fx : Int} (H : SC σ k j E w) (f3 : gI σ k 3 = (sF T : Int)) (hs : s = k ∨ s = j) (hT : CSt σ s T) (hF : 1 ≤ sF T ∧ sF T ≤ 4) (hd : fD w ≤ 9) (hsr : fx = 0 → fS w ≤ 9) (hp : isNm σ p) (hq : isNm σ q) (hp2 : 42 ≤ p ∧ p ≤ 50) (hq2 : 42 ≤ q ∧ q ≤ 50) :
    okc (MM 281 [mR (some 40), mR (some s), mR (some p), mR (some q), mI fx] σ) none (fun τ => CSt τ s (if fx = 0 then wV (wV T (dR w) (numV (rC σ p))) (sRr w) (numV (rC σ q)) else wV T (dR w) (numV (rC σ p))) ∧ crq τ σ s) := by
  have dd := H.1.2.1
  have sc : stC s := by rcases hs with h | h <;> rw [h]
                        · exact H.1.2.2.1
                        · exact H.1.2.2.2
  have ss : isSt σ s := by rcases hs with h | h <;> rw [h]
                           · exact H.1.1.1
                           · exact H.1.1.2
  have d9 : dR w ≤ 9 := by have := dR_9 hd; omega
  have t41 := T241f H f3 hF (show fD w ≤ 10 by omega)
  obtain ⟨τ1, t18, q18⟩ := T218 (j := p) (pl := pR T (dR w)) ss hp (by omega) (pR_lt hF (by omega))
  have c1 := CSt_w hF hT d9 q18
  have cq := crq_c q18
  have sq : sfq τ1 σ k j := by
    rcases hs with h | h
    · subst h
      exact sfq_c cq
    · subst h
      exact sfq_j dd (csq_c cq)
  have H1 := SC_q sq H
  have f31 : gI τ1 k 3 = (sF T : Int) := (cq.1 _ _).trans f3
  have as : ao σ 8 (some s) = True := aoS ss
  by_cases f0 : fx = 0
  · rw [if_pos f0]
    have hs9 := hsr f0
    have s9 : sRr w ≤ 9 := by have := (fld_rng w).2.2.1; show (fS w).toNat ≤ 9; omega
    have t42 := T242f H1 f31 hF (show fS w ≤ 10 by omega)
    have ss1 : isSt τ1 s := st_r q18.2.2.1 ss
    obtain ⟨τ2, t18b, q18b⟩ := T218 (j := q) (pl := pR T (sRr w)) ss1 ((kd_r q18.2.2.1).trans hq) (by omega) (pR_lt hF (by omega))
    have rq : rC τ1 q = rC σ q := by
      have e : ∀ i, gL τ1 q i = gL σ q i := fun i => cq.2.1 _ _ (by omega)
      unfold rC
      rw [e, e, e, e, e, e]
    rw [rq] at q18b
    have c2 := CSt_w (S := wV T (dR w) (numV (rC σ p))) hF c1 s9 q18b
    have as1 : ao τ1 8 (some s) = True := aoS ss1
    refine okc_o (τ := τ2) ?_ ⟨c2, crq_t (crq_c q18b) cq⟩
    simp only [M281, e281_0, e281_5, e281_9, e281_19, e281_23, Option.getD_some, Option.bind_some, Option.toList_some, Option.toList_none, List.cons_append, List.nil_append, and_self, and_true, true_and, false_and, and_false, ite_self, not_true_eq_false, not_false_eq_true, reduceIte, Nat.reduceEqDiff, ab_I, ab_L, ab_R, ao_I, ao_L, ao_R, gL_sL, gI_sI, gR_sR, gI_sL, gI_sR, gL_sI, gL_sR, gR_sI, gR_sL, t41, as, t18, f0, t42, as1, t18b]
  · rw [if_neg f0]
    refine okc_o (τ := τ1) ?_ ⟨c1, cq⟩
    simp only [M281, e281_0, e281_5, e281_9, e281_23, Option.getD_some, Option.bind_some, Option.toList_some, Option.toList_none, List.cons_append, List.nil_append, and_self, and_true, true_and, false_and, and_false, ite_self, not_true_eq_false, not_false_eq_true, reduceIte, Nat.reduceEqDiff, ab_I, ab_L, ab_R, ao_I, ao_L, ao_R, gL_sL, gI_sI, gR_sR, gI_sL, gI_sR, gL_sI, gL_sR, gR_sI, gR_sL, t41, as, t18, f0]
theorem decX_r {c : Int} {x y : N6} : decX c x y = 1 ∨ decX c x y = 0 ∨ decX c x y = -1 := by
  have a : ∀ x y, aboN x y = 1 ∨ aboN x y = 0 ∨ aboN x y = -1 := fun x y => by
    unfold aboN
    repeat' split
    all_goals simp
  have b : ∀ x y, nblN x y = 1 ∨ nblN x y = 0 ∨ nblN x y = -1 := fun x y => by
    unfold nblN
    repeat' split
    all_goals simp
  have a' : ∀ x y, aboS x y = 1 ∨ aboS x y = 0 ∨ aboS x y = -1 := fun x y => by
    unfold aboS
    repeat' split
    all_goals simp
  have b' : ∀ x y, nblS x y = 1 ∨ nblS x y = 0 ∨ nblS x y = -1 := fun x y => by
    unfold nblS
    repeat' split
    all_goals simp
  have e := equN_r x y
  unfold decX
  split
  · exact e
  · split
    · split
      · omega
      · omega
    · split
      · repeat' split
        all_goals simp
      · split
        · exact a _ _
        · split
          · exact b _ _
          · split
            · exact a _ _
            · split
              · exact b _ _
              · split
                · exact a' _ _
                · split
                  · exact b' _ _
                  · split
                    · exact a' _ _
                    · exact b' _ _
theorem decN_r {c : Int} {b : Bool} {x y : N6} : decN c b x y = 1 ∨ decN c b x y = 0 ∨ decN c b x y = -1 := by
  unfold decN
  split
  · exact decX_r
  · split
    · repeat' split
      all_goals simp
    · exact decX_r
/-- the right side's number -/
abbrev sdN (S : ST) (w : B64) : N6 := vn (sidJ S w)
theorem sd_w (h : widJ w) : sdN S w = vn (rgtV S w) := by
  unfold sdN sidJ rgtV immJ
  split
  · rfl
  · rfl
theorem sd_r (h : rgt w) : sidJ S w = rgtV S w := by
  unfold sidJ rgtV
  rw [if_pos h, if_pos h]
theorem sd_i (h : ¬ rgt w) : sidJ S w = numV (cstN (immJ w)) := if_neg h
theorem sd_k : vk (sidJ S w) = vk (rgtV S w) := by
  unfold sidJ rgtV
  split <;> rfl
theorem sd_c (h : ¬ widJ w) : cutT (sdN S w) = cutT (vn (rgtV S w)) := by
  by_cases r : rgt w
  · unfold sdN
    rw [sd_r r]
  · unfold sdN rgtV
    rw [sd_i r, if_neg r]
    show cutT (cstN (immJ w)) = cutT (cstN (BitVec.ofInt 64 (fI w)))
    unfold immJ
    rw [if_neg h, cutT_cst, cutT_cst, cF_cF]
/-- where a way waits though nothing is known by it -/
abbrev ptC (S : ST) (w : B64) (x y : N6) : Prop := (rgt w ∧ fD w = fS w) ∨ ¬ (widJ w ∨ ¬ isSgn (fC w) ∧ ¬ cF < jB x ∧ ¬ cF < jB y)
theorem cF_hi (b : B64) : (lUsh b 32 = BitVec.ofNat 64 0) = ¬ cF < b := by
  rw [show lUsh b 32 = lUsh b ((32 : Nat) : Int) from rfl, lUsh_k b (by decide), BitVec.lt_def, cF_toNat]
  apply propext
  constructor
  · intro h
    have := congrArg BitVec.toNat h
    rw [BitVec.toNat_ushiftRight, Nat.shiftRight_eq_div_pow] at this
    have this : b.toNat / 4294967296 = 0 := this
    omega
  · intro h
    apply BitVec.eq_of_toNat_eq
    rw [BitVec.toNat_ushiftRight, Nat.shiftRight_eq_div_pow]
    show b.toNat / 4294967296 = 0
    omega
/-- numbers, before they are narrowed -/
theorem T267 (H : SC σ k j E w) (hS : CSt σ k S) (P : PX S E t) (ht : gI σ 40 8 = t) (h4 : gI σ 40 4 = n) (h5 : gI σ 40 5 = g) (h3 : gI σ 40 3 = 0) (hl : ak σ 2 (gR σ k 6)) (hd : fD w ≤ 10) (hs : rgt w → fS w ≤ 10) (hc : isCmp (fC w)) (h56 : fL w = 5 ∨ fL w = 6) (kL : vk (rgV S (dR w)) = 1) (kR : vk (sidJ S w) = 1) :
    okc (MM 267 [mR (some 40), mI (fC w), mI (b2 (widJ w))] σ) (some (mI 1)) (fun τ => spj σ τ k j (numJ S w g n t))
    ∨ ((decN (fC w) (decide (widJ w)) (vn (rgV S (dR w))) (sdN S w) = -1 ∧ ¬ ptC S w (vn (rgV S (dR w))) (sdN S w)) ∧ okc (MM 267 [mR (some 40), mI (fC w), mI (b2 (widJ w))] σ) (some (mI 0)) (fun τ => nfq τ σ ∧ rC τ 42 = vn (rgV S (dR w)) ∧ rC τ 43 = sdN S w)) := by
  have F := PX_F P
  have sc := sc_c H
  obtain ⟨X, Y, t48, eX, eY⟩ := T248 H hS P hd hs
  have eX := eX (by omega)
  have eY := eY (fun r => by
    have e : rgtV S w = rgV S (sRr w) := if_pos r
    rw [← e, ← sd_k]
    omega)
  subst eX eY
  obtain ⟨c, hcc⟩ : ∃ c, c = fC w := ⟨_, rfl⟩
  rw [← hcc] at hc ⊢
  obtain ⟨σ1, hσ1⟩ : ∃ σ1, σ1 = wC (wC (wC (wC σ 42 (vn (rgV S (dR w)))) 43 (vn (rgtV S w))) 45 (vn (rgV S (dR w)))) 46 (vn (rgtV S w)) := ⟨_, rfl⟩
  have t66a := T66 (σ := wC (wC σ 42 (vn (rgV S (dR w)))) 43 (vn (rgtV S w))) (k := 45) (j := 42) (kc_45 _) (kc_42 _) (by decide)
  rw [rC_wC, if_neg (by decide), rC_wC, if_pos rfl] at t66a
  have t66b := T66 (σ := wC (wC (wC σ 42 (vn (rgV S (dR w)))) 43 (vn (rgtV S w))) 45 (vn (rgV S (dR w)))) (k := 46) (j := 43) (kc_46 _) (kc_43 _) (by decide)
  rw [rC_wC, if_neg (by decide), rC_wC, if_pos rfl] at t66b
  rw [← hσ1] at t66b
  have q1 : nfq σ1 σ := by rw [hσ1]; exact nfq_t (nfq_w (by omega)) (nfq_t (nfq_w (by omega)) (nfq_t (nfq_w (by omega)) (nfq_w (by omega))))
  have r42 : rC σ1 42 = vn (rgV S (dR w)) := by rw [hσ1, rC_wC, if_neg (by decide), rC_wC, if_neg (by decide), rC_wC, if_neg (by decide), rC_wC, if_pos rfl]
  have r43 : rC σ1 43 = vn (rgtV S w) := by rw [hσ1, rC_wC, if_neg (by decide), rC_wC, if_neg (by decide), rC_wC, if_pos rfl]
  have r45 : rC σ1 45 = vn (rgV S (dR w)) := by rw [hσ1, rC_wC, if_neg (by decide), rC_wC, if_pos rfl]
  have r46 : rC σ1 46 = vn (rgtV S w) := by rw [hσ1, rC_wC, if_pos rfl]
  have s31 : MM 267 [mR (some 40), mI c, mI (b2 (widJ w))] σ = RR (lkB tb267) (B267_31, [some (mR (some 40)), some (mI c), some (mI (b2 (widJ w))), some (mI (b2 (isSgn c))), none, none], [], σ1) := by
    simp only [M267, e267_0, e267_4, e267_8, e267_20, Option.getD_some, Option.bind_some, Option.toList_some, Option.toList_none, List.cons_append, List.nil_append, and_self, and_true, true_and, false_and, and_false, ite_self, not_true_eq_false, not_false_eq_true, reduceIte, Nat.reduceEqDiff, ab_I, ab_L, ab_R, ao_I, ao_L, ao_R, gL_sL, gI_sI, gR_sR, gI_sL, gI_sR, gL_sI, gL_sR, gR_sI, gR_sL, t48, T266, t66a, t66b]
  clear hσ1 t48 t66a t66b
  -- the verdict
  obtain ⟨ρ, s84, qρ, p42, p43, p46⟩ : ∃ ρ, RR (lkB tb267) (B267_31, [some (mR (some 40)), some (mI c), some (mI (b2 (widJ w))), some (mI (b2 (isSgn c))), none, none], [], σ1) = RR (lkB tb267) (B267_84, [some (mR (some 40)), some (mI c), some (mI (b2 (widJ w))), some (mI (b2 (isSgn c))), none, none], [mI (decN c (decide (widJ w)) (vn (rgV S (dR w))) (sdN S w))], ρ) ∧ nfq ρ σ ∧ rC ρ 42 = vn (rgV S (dR w)) ∧ rC ρ 43 = vn (rgtV S w) ∧ (¬ rgt w → rC ρ 46 = sdN S w) := by
    by_cases wd : widJ w
    · have dn : decN c (decide (widJ w)) (vn (rgV S (dR w))) (sdN S w) = decX c (vn (rgV S (dR w))) (vn (rgtV S w)) := by
        unfold decN
        rw [if_pos (decide_eq_true wd), sd_w wd]
      have t68 := T268 (σ := σ1) (c := c) (p := 45) (q := 46) hc (kc_45 _) (kc_46 _)
      rw [r45, r46] at t68
      refine ⟨σ1, ?_, q1, r42, r43, fun _ => by rw [r46, sd_w wd]⟩
      rw [dn, b2_yes wd]
      simp only [e267_31, e267_57, e267_65, e267_77, Option.getD_some, Option.bind_some, Option.toList_some, Option.toList_none, List.cons_append, List.nil_append, and_self, and_true, true_and, false_and, and_false, ite_self, not_true_eq_false, not_false_eq_true, reduceIte, Nat.reduceEqDiff, ab_I, ab_L, ab_R, ao_I, ao_L, ao_R, gL_sL, gI_sI, gR_sR, gI_sL, gI_sR, gL_sI, gL_sR, gR_sI, gR_sL, oneI, t68]
    · have t75a := T75 (σ := σ1) (k := 45) (j := 42) (kc_45 _) (kc_42 _) (by decide)
      rw [r42] at t75a
      have t75b := T75 (σ := wC σ1 45 (cutT (vn (rgV S (dR w))))) (k := 46) (j := 43) (kc_46 _) (kc_43 _) (by decide)
      rw [rC_wC, if_neg (by decide), r43] at t75b
      obtain ⟨ρ, hρ⟩ : ∃ ρ, ρ = wC (wC σ1 45 (cutT (vn (rgV S (dR w))))) 46 (cutT (vn (rgtV S w))) := ⟨_, rfl⟩
      rw [← hρ] at t75b
      have u45 : rC ρ 45 = cutT (vn (rgV S (dR w))) := by rw [hρ, rC_wC, if_neg (by decide), rC_wC, if_pos rfl]
      have u46 : rC ρ 46 = cutT (vn (rgtV S w)) := by rw [hρ, rC_wC, if_pos rfl]
      have u42 : rC ρ 42 = vn (rgV S (dR w)) := by rw [hρ, rC_wC, if_neg (by decide), rC_wC, if_neg (by decide), r42]
      have u43 : rC ρ 43 = vn (rgtV S w) := by rw [hρ, rC_wC, if_neg (by decide), rC_wC, if_neg (by decide), r43]
      have qρ : nfq ρ σ := by rw [hρ]; exact nfq_t (nfq_w (by omega)) (nfq_t (nfq_w (by omega)) q1)
      have e46 : ¬ rgt w → rC ρ 46 = sdN S w := fun r => by
        rw [u46, ← sd_c wd]
        show cutT (vn (sidJ S w)) = vn (sidJ S w)
        rw [sd_i r]
        show cutT (cstN (immJ w)) = cstN (immJ w)
        rw [cutT_cst]
        unfold immJ
        rw [if_neg wd, cF_cF]
      by_cases sg : isSgn c
      · have dn : decN c (decide (widJ w)) (vn (rgV S (dR w))) (sdN S w) = (if isC (cutT (vn (rgV S (dR w)))) ∧ isC (cutT (vn (rgtV S w))) then (if cmpB c false (jV (cutT (vn (rgV S (dR w))))) (jV (cutT (vn (rgtV S w)))) = true then 1 else 0) else -1) := by
          unfold decN
          rw [decide_eq_false wd, if_neg (by decide), if_pos sg, sd_c wd]
        have t73 := T273 (σ := ρ) (w := w) (x := vn (rgV S (dR w))) (y := vn (rgtV S w)) (sc_p (SC_n qρ H)) (by rw [← hcc]; exact hc) (by
          rcases h56 with h | h
          · exact absurd h wd
          · exact h) u45 u46
        rw [← hcc, ← dn] at t73
        refine ⟨ρ, ?_, qρ, u42, u43, e46⟩
        rw [b2_no wd, b2_yes sg]
        simp only [e267_31, e267_46, e267_57, Option.getD_some, Option.bind_some, Option.toList_some, Option.toList_none, List.cons_append, List.nil_append, and_self, and_true, true_and, false_and, and_false, ite_self, not_true_eq_false, not_false_eq_true, reduceIte, Nat.reduceEqDiff, ab_I, ab_L, ab_R, ao_I, ao_L, ao_R, gL_sL, gI_sI, gR_sR, gI_sL, gI_sR, gL_sI, gL_sR, gR_sI, gR_sL, oneI, t75a, t75b, t73]
      · have dn : decN c (decide (widJ w)) (vn (rgV S (dR w))) (sdN S w) = decX c (cutT (vn (rgV S (dR w)))) (cutT (vn (rgtV S w))) := by
          unfold decN
          rw [decide_eq_false wd, if_neg (by decide), if_neg sg, sd_c wd]
        have t68 := T268 (σ := ρ) (c := c) (p := 45) (q := 46) hc (kc_45 _) (kc_46 _)
        rw [u45, u46] at t68
        refine ⟨ρ, ?_, qρ, u42, u43, e46⟩
        rw [dn, b2_no wd, b2_no sg]
        simp only [e267_31, e267_46, e267_57, e267_65, e267_77, Option.getD_some, Option.bind_some, Option.toList_some, Option.toList_none, List.cons_append, List.nil_append, and_self, and_true, true_and, false_and, and_false, ite_self, not_true_eq_false, not_false_eq_true, reduceIte, Nat.reduceEqDiff, ab_I, ab_L, ab_R, ao_I, ao_L, ao_R, gL_sL, gI_sI, gR_sR, gI_sL, gI_sR, gL_sI, gL_sR, gR_sI, gR_sL, t75a, t75b, t68]
  rw [s31, s84]
  clear s31 s84
  have Hρ := SC_n qρ H
  have Sρ := CSt_n sc qρ hS
  have g4 : gI ρ 40 4 = n := (qρ.1 _ _).trans h4
  have g5 : gI ρ 40 5 = g := (qρ.1 _ _).trans h5
  have g3 : gI ρ 40 3 = 0 := (qρ.1 _ _).trans h3
  have g8 : gI ρ 40 8 = t := (qρ.1 _ _).trans ht
  unfold numJ
  rw [← hcc]
  generalize hv : decN c (decide (widJ w)) (vn (rgV S (dR w))) (vn (sidJ S w)) = v
  have hv3 : v = 1 ∨ v = 0 ∨ v = -1 := by rw [← hv]; exact decN_r
  rcases hv3 with v1 | v0 | vm
  · subst v1
    left
    rw [if_pos rfl]
    refine okc_o (τ := sI ρ 40 4 (gI ρ 40 5)) ?_ ⟨sfq_t (sfq_i (by omega)) (sfq_n qρ), fun _ => ⟨?_, CSt_i sc Sρ, ?_, ?_⟩⟩
    · simp only [e267_84, Option.getD_some, Option.bind_some, Option.toList_some, Option.toList_none, List.cons_append, List.nil_append, and_self, and_true, true_and, false_and, and_false, ite_self, not_true_eq_false, not_false_eq_true, reduceIte, Nat.reduceEqDiff, ab_I, ab_L, ab_R, ao_I, ao_L, ao_R, gL_sL, gI_sI, gR_sR, gI_sL, gI_sR, gL_sI, gL_sR, gR_sI, gR_sL, Int.reduceEq]
    · rw [gI_sI, if_neg (by omega)]; exact g8
    · rw [gI_sI, if_pos ⟨rfl, rfl⟩]; exact g5
    · rw [gI_sI, if_neg (by omega)]; exact g3
  · subst v0
    left
    rw [if_neg (show ¬ (0 : Int) = 1 by decide), if_pos rfl]
    refine okc_o (τ := sI ρ 40 4 (gI ρ 40 4)) ?_ ⟨sfq_t (sfq_i (by omega)) (sfq_n qρ), fun _ => ⟨?_, CSt_i sc Sρ, ?_, ?_⟩⟩
    · simp only [e267_84, Option.getD_some, Option.bind_some, Option.toList_some, Option.toList_none, List.cons_append, List.nil_append, and_self, and_true, true_and, false_and, and_false, ite_self, not_true_eq_false, not_false_eq_true, reduceIte, Nat.reduceEqDiff, ab_I, ab_L, ab_R, ao_I, ao_L, ao_R, gL_sL, gI_sI, gR_sR, gI_sL, gI_sR, gL_sI, gL_sR, gR_sI, gR_sL, Int.reduceEq]
    · rw [gI_sI, if_neg (by omega)]; exact g8
    · rw [gI_sI, if_pos ⟨rfl, rfl⟩]; exact g4
    · rw [gI_sI, if_neg (by omega)]; exact g3
  · subst vm
    rw [if_neg (show ¬ (-1 : Int) = 1 by decide), if_neg (show ¬ (-1 : Int) = 0 by decide)]
    -- the right side is the constant that is looked at
    obtain ⟨ρ1, s133, q1', u42, u43⟩ : ∃ ρ1, RR (lkB tb267) (B267_84, [some (mR (some 40)), some (mI c), some (mI (b2 (widJ w))), some (mI (b2 (isSgn c))), none, none], [mI (-1)], ρ) = RR (lkB tb267) (B267_133, [some (mR (some 40)), some (mI c), some (mI (b2 (widJ w))), some (mI (b2 (isSgn c))), some (mI (-1)), none], [], ρ1) ∧ nfq ρ1 σ ∧ rC ρ1 42 = vn (rgV S (dR w)) ∧ rC ρ1 43 = sdN S w := by
      have t43 := T243 Hρ
      by_cases r : rgt w
      · rw [b2_yes r] at t43
        refine ⟨ρ, ?_, qρ, p42, by rw [p43]; show _ = vn (sidJ S w); rw [sd_r r]⟩
        simp only [e267_84, e267_119, Option.getD_some, Option.bind_some, Option.toList_some, Option.toList_none, List.cons_append, List.nil_append, and_self, and_true, true_and, false_and, and_false, ite_self, not_true_eq_false, not_false_eq_true, reduceIte, Nat.reduceEqDiff, ab_I, ab_L, ab_R, ao_I, ao_L, ao_R, gL_sL, gI_sI, gR_sR, gI_sL, gI_sR, gL_sI, gL_sR, gR_sI, gR_sL, t43, oneI]
      · rw [b2_no r] at t43
        have t66 := T66 (σ := ρ) (k := 43) (j := 46) (kc_43 _) (kc_46 _) (by decide)
        rw [p46 r] at t66
        refine ⟨wC ρ 43 (sdN S w), ?_, nfq_t (nfq_w (by omega)) qρ, by rw [rC_wC, if_neg (by decide), p42], by rw [rC_wC, if_pos rfl]⟩
        simp only [e267_84, e267_119, Option.getD_some, Option.bind_some, Option.toList_some, Option.toList_none, List.cons_append, List.nil_append, and_self, and_true, true_and, false_and, and_false, ite_self, not_true_eq_false, not_false_eq_true, reduceIte, Nat.reduceEqDiff, ab_I, ab_L, ab_R, ao_I, ao_L, ao_R, gL_sL, gI_sI, gR_sR, gI_sL, gI_sR, gL_sI, gL_sR, gR_sI, gR_sL, t43, t66]
    rw [s133]
    have H1 := SC_n q1' H
    have t43 := T243 H1
    have s162 : RR (lkB tb267) (B267_133, [some (mR (some 40)), some (mI c), some (mI (b2 (widJ w))), some (mI (b2 (isSgn c))), some (mI (-1)), none], [], ρ1) = RR (lkB tb267) (B267_162, [some (mR (some 40)), some (mI c), some (mI (b2 (widJ w))), some (mI (b2 (isSgn c))), some (mI (-1)), none], [mI (b2 (rgt w ∧ fD w = fS w))], ρ1) := by
      by_cases r : rgt w
      · rw [b2_yes r] at t43
        by_cases e : fD w = fS w
        · rw [b2_yes (p := rgt w ∧ fD w = fS w) ⟨r, e⟩]
          simp only [e267_133, e267_137, e267_147, e267_154, Option.getD_some, Option.bind_some, Option.toList_some, Option.toList_none, List.cons_append, List.nil_append, and_self, and_true, true_and, false_and, and_false, ite_self, not_true_eq_false, not_false_eq_true, reduceIte, Nat.reduceEqDiff, ab_I, ab_L, ab_R, ao_I, ao_L, ao_R, gL_sL, gI_sI, gR_sR, gI_sL, gI_sR, gL_sI, gL_sR, gR_sI, gR_sL, t43, oneI, sc_w H1, T2, T1, e]
        · rw [b2_no (p := rgt w ∧ fD w = fS w) (fun z => e z.2)]
          have e' : ¬ fS w = fD w := fun z => e z.symm
          simp only [e267_133, e267_137, e267_147, e267_154, e267_161, Option.getD_some, Option.bind_some, Option.toList_some, Option.toList_none, List.cons_append, List.nil_append, and_self, and_true, true_and, false_and, and_false, ite_self, not_true_eq_false, not_false_eq_true, reduceIte, Nat.reduceEqDiff, ab_I, ab_L, ab_R, ao_I, ao_L, ao_R, gL_sL, gI_sI, gR_sR, gI_sL, gI_sR, gL_sI, gL_sR, gR_sI, gR_sL, t43, oneI, sc_w H1, T2, T1, e']
      · rw [b2_no r] at t43
        rw [b2_no (p := rgt w ∧ fD w = fS w) (fun z => r z.1)]
        simp only [e267_133, e267_137, e267_161, Option.getD_some, Option.bind_some, Option.toList_some, Option.toList_none, List.cons_append, List.nil_append, and_self, and_true, true_and, false_and, and_false, ite_self, not_true_eq_false, not_false_eq_true, reduceIte, Nat.reduceEqDiff, ab_I, ab_L, ab_R, ao_I, ao_L, ao_R, gL_sL, gI_sI, gR_sR, gI_sL, gI_sR, gL_sI, gL_sR, gR_sI, gR_sL, t43]
    rw [s162]
    have g42 : gL ρ1 42 3 = jB (vn (rgV S (dR w))) := by rw [← u42]; rfl
    have g43 : gL ρ1 43 3 = jB (sdN S w) := by rw [← u43]; rfl
    have hl1 : ak ρ1 2 (gR ρ1 k 6) := by
      rw [gR_r q1'.2.2]
      intro z
      have := hl z
      rwa [kd_r q1'.2.2]
    by_cases pt : ptC S w (vn (rgV S (dR w))) (sdN S w)
    · left
      have pt' : (rgt w ∧ fD w = fS w) ∨ ¬ (widJ w ∨ ¬ isSgn c ∧ ¬ cF < jB (vn (rgV S (dR w))) ∧ ¬ cF < jB (vn (sidJ S w))) := by
        rw [hcc]
        exact pt
      rw [if_pos pt']
      obtain ⟨τ, t63, p⟩ := T263 H1 (CSt_n sc q1' hS) P hl1
      have sp := spj_p (n := n) (g := g) H1 ((q1'.1 _ _).trans ht) ((q1'.1 _ _).trans h4) ((q1'.1 _ _).trans h5) p
      have sp' : spj σ τ k j (0, some (n, S), some (g, S), t) := ⟨sfq_t sp.1 (sfq_n q1'), fun z => by
        obtain ⟨y1, y2, y3, y4, y5⟩ := sp.2 z
        exact ⟨y1, y2, y3, y4.trans (q1'.1 _ _), y5.trans (gR_r q1'.2.2)⟩⟩
      refine okc_o (τ := τ) ?_ sp'
      have s207 : RR (lkB tb267) (B267_162, [some (mR (some 40)), some (mI c), some (mI (b2 (widJ w))), some (mI (b2 (isSgn c))), some (mI (-1)), none], [mI (b2 (rgt w ∧ fD w = fS w))], ρ1) = RR (lkB tb267) (B267_207, [some (mR (some 40)), some (mI c), some (mI (b2 (widJ w))), some (mI (b2 (isSgn c))), some (mI (-1)), some (mI (b2 (rgt w ∧ fD w = fS w)))], [], ρ1) := by
        by_cases sm : rgt w ∧ fD w = fS w
        · rw [b2_yes sm]
          simp only [e267_162, Option.getD_some, Option.bind_some, Option.toList_some, Option.toList_none, List.cons_append, List.nil_append, and_self, and_true, true_and, false_and, and_false, ite_self, not_true_eq_false, not_false_eq_true, reduceIte, Nat.reduceEqDiff, ab_I, ab_L, ab_R, ao_I, ao_L, ao_R, gL_sL, gI_sI, gR_sR, gI_sL, gI_sR, gL_sI, gL_sR, gR_sI, gR_sL, oneI]
        · have o := pt'.resolve_left sm
          have wd : ¬ widJ w := fun z => o (Or.inl z)
          rw [b2_no sm, b2_no wd]
          by_cases sg : isSgn c
          · rw [b2_yes sg]
            simp only [e267_162, Option.getD_some, Option.bind_some, Option.toList_some, Option.toList_none, List.cons_append, List.nil_append, and_self, and_true, true_and, false_and, and_false, ite_self, not_true_eq_false, not_false_eq_true, reduceIte, Nat.reduceEqDiff, ab_I, ab_L, ab_R, ao_I, ao_L, ao_R, gL_sL, gI_sI, gR_sR, gI_sL, gI_sR, gL_sI, gL_sR, gR_sI, gR_sL, oneI]
          · rw [b2_no sg]
            by_cases hi : cF < jB (vn (rgV S (dR w)))
            · simp only [e267_162, Option.getD_some, Option.bind_some, Option.toList_some, Option.toList_none, List.cons_append, List.nil_append, and_self, and_true, true_and, false_and, and_false, ite_self, not_true_eq_false, not_false_eq_true, reduceIte, Nat.reduceEqDiff, ab_I, ab_L, ab_R, ao_I, ao_L, ao_R, gL_sL, gI_sI, gR_sR, gI_sL, gI_sR, gL_sI, gL_sR, gR_sI, gR_sL, g42, cF_hi, eq_true hi]
            · have hi2 : cF < jB (sdN S w) := Classical.byContradiction fun z => o (Or.inr ⟨sg, hi, z⟩)
              simp only [e267_162, Option.getD_some, Option.bind_some, Option.toList_some, Option.toList_none, List.cons_append, List.nil_append, and_self, and_true, true_and, false_and, and_false, ite_self, not_true_eq_false, not_false_eq_true, reduceIte, Nat.reduceEqDiff, ab_I, ab_L, ab_R, ao_I, ao_L, ao_R, gL_sL, gI_sI, gR_sR, gI_sL, gI_sR, gL_sI, gL_sR, gR_sI, gR_sL, g42, g43, cF_hi, eq_false hi, eq_true hi2]
      rw [s207]
      simp only [e267_207, e267_211, Option.getD_some, Option.bind_some, Option.toList_some, Option.toList_none, List.cons_append, List.nil_append, and_self, and_true, true_and, false_and, and_false, ite_self, not_true_eq_false, not_false_eq_true, reduceIte, Nat.reduceEqDiff, ab_I, ab_L, ab_R, ao_I, ao_L, ao_R, gL_sL, gI_sI, gR_sR, gI_sL, gI_sR, gL_sI, gL_sR, gR_sI, gR_sL, t63]
    · right
      refine ⟨⟨rfl, pt⟩, ?_⟩
      refine okc_o (τ := ρ1) ?_ ⟨q1', u42, u43⟩
      have sm : ¬ (rgt w ∧ fD w = fS w) := fun z => pt (Or.inl z)
      have o : widJ w ∨ ¬ isSgn (fC w) ∧ ¬ cF < jB (vn (rgV S (dR w))) ∧ ¬ cF < jB (sdN S w) := Classical.byContradiction fun z => pt (Or.inr z)
      rw [b2_no sm]
      by_cases wd : widJ w
      · rw [b2_yes wd]
        simp only [e267_162, Option.getD_some, Option.bind_some, Option.toList_some, Option.toList_none, List.cons_append, List.nil_append, and_self, and_true, true_and, false_and, and_false, ite_self, not_true_eq_false, not_false_eq_true, reduceIte, Nat.reduceEqDiff, ab_I, ab_L, ab_R, ao_I, ao_L, ao_R, gL_sL, gI_sI, gR_sR, gI_sL, gI_sR, gL_sI, gL_sR, gR_sI, gR_sL, oneI]
      · obtain ⟨o1, o2, o3⟩ := o.resolve_left wd
        rw [← hcc] at o1
        rw [b2_no wd, b2_no o1]
        simp only [e267_162, Option.getD_some, Option.bind_some, Option.toList_some, Option.toList_none, List.cons_append, List.nil_append, and_self, and_true, true_and, false_and, and_false, ite_self, not_true_eq_false, not_false_eq_true, reduceIte, Nat.reduceEqDiff, ab_I, ab_L, ab_R, ao_I, ao_L, ao_R, gL_sL, gI_sI, gR_sR, gI_sL, gI_sR, gL_sI, gL_sR, gR_sI, gR_sL, g42, g43, cF_hi, eq_false o2, eq_false o3]
end CGJ
-- FILE 93.cgn
/-! ===== the class narrows two numbers, against numJ ===== -/
section CGN
variable {τ σ ρ : MS} {k j : Nat} {E : EV} {w : B64} {S T : ST} {t n g : Int} {x y : N6} {c : Int}
theorem equN_cc (h : isC x ∧ isC y) : ¬ equN x y = -1 := by
  unfold equN
  by_cases e : jV x = jV y
  · rw [if_pos ⟨h, e⟩]; decide
  · have ap : apaN x y := by
      left
      intro z
      have h1 : jM x = 0#64 := h.1
      have h2 : jM y = 0#64 := h.2
      rw [h1, h2, show ~~~ (0#64) = BitVec.allOnes 64 by decide, BitVec.and_allOnes, BitVec.and_allOnes] at z
      exact e (BitVec.xor_eq_zero_iff.1 z)
    rw [if_neg (fun z => e z.2), if_pos ap]; decide
theorem decX_cc (hc : c = 16 ∨ c = 80) (h : isC x ∧ isC y) : ¬ decX c x y = -1 := by
  have q := equN_cc h
  rcases hc with rfl | rfl
  · exact q
  · show ¬ (if equN x y < 0 then equN x y else 1 - equN x y) = -1
    rcases equN_n x y with e | e | e
    · rw [e]; decide
    · rw [e]; decide
    · exact absurd e q
theorem td1_M (n : N6) : jM (td1 n) = jM n := by unfold td1; split <;> rfl
theorem td2_M (n : N6) : jM (td2 n) = jM n := by unfold td2; split <;> rfl
theorem isC_td {n : N6} (h : isC n) : isC (tdN n) := by
  have e : jM (td2 (td1 (byB n))) = 0#64 := by rw [td2_M, td1_M]; exact h
  show jM (tdN n) = 0#64
  unfold tdN
  split
  · show jM (td2 (td1 (byB n))) &&& sprd (jA (td2 (td1 (byB n))) ^^^ jB (td2 (td1 (byB n)))) = 0#64
    rw [e, BitVec.zero_and]
  · exact e
theorem isC_cut {n : N6} (h : isC n) : isC (cutT n) := isC_td (by
  show jM n &&& cF = 0#64
  have h1 : jM n = 0#64 := h
  rw [h1, BitVec.zero_and])
theorem decN_t {p : Prop} {e : Decidable p} (h : p) : decN c (@decide p e) x y = decX c x y := by
  unfold decN
  rw [if_pos (decide_eq_true h)]
theorem decN_f {p : Prop} {e : Decidable p} (h : ¬ p) (s : ¬ isSgn c) : decN c (@decide p e) x y = decX c (cutT x) (cutT y) := by
  unfold decN
  rw [if_neg (fun z => h (of_decide_eq_true z)), if_neg s]
theorem dec64 (h : decX 64 x y = -1) : jV x &&& jV y = 0#64 := by
  apply Classical.byContradiction
  intro z
  have e : decX 64 x y = (if ¬ jV x &&& jV y = 0#64 then 1 else if (jV x ||| jM x) &&& (jV y ||| jM y) = 0#64 then 0 else -1) := rfl
  rw [e, if_pos z] at h
  exact absurd h (by decide)
/-- what is known when both ways are narrowed -/
theorem nrA (hc : isCmp c) (dn : decN c (decide (widJ w)) x y = -1) (o : widJ w ∨ ¬ isSgn c ∧ ¬ cF < jB x ∧ ¬ cF < jB y) (h : c = 16 ∨ c = 80) : ¬ (isC x ∧ isC y) := by
  intro q
  by_cases wd : widJ w
  · rw [decN_t wd] at dn
    exact decX_cc h q dn
  · have s := (o.resolve_left wd).1
    rw [decN_f wd s] at dn
    exact decX_cc h ⟨isC_cut q.1, isC_cut q.2⟩ dn
theorem nrB {is : Bool} (hc : isCmp c) (r : ¬ rgt w) (dn : decN c (decide (widJ w)) x (cstN (immJ w)) = -1) (o : widJ w ∨ ¬ isSgn c ∧ ¬ cF < jB x ∧ ¬ cF < jB (cstN (immJ w))) : (tdG (narN c is x (cstN (immJ w))).1 ∧ tdG (narN c is x (cstN (immJ w))).2) ↔ tdG (narN c is x (cstN (immJ w))).1 := by
  refine nar_G hc ?_
  by_cases wd : widJ w
  · rw [decN_t wd] at dn
    exact Or.inl (nd_w dn)
  · obtain ⟨s, hB, _⟩ := o.resolve_left wd
    rw [BitVec.lt_def, cF_toNat] at hB
    by_cases hA : (jA x).toNat < 4294967296
    · left
      rw [decN_f wd s] at dn
      have e : cutT (cstN (immJ w)) = cstN (immJ w) := by
        rw [cutT_cst]
        unfold immJ
        rw [if_neg wd, cF_cF]
      rw [e] at dn
      exact nd_n s hA (by omega) dn
    · exact Or.inr ⟨by omega, s⟩
theorem nrC (hx : lowA x) (dn : decN 64 (decide (widJ w)) x y = -1) (o : widJ w ∨ ¬ isSgn (64 : Int) ∧ ¬ cF < jB x ∧ ¬ cF < jB y) : (tdG (cl64 x y) ↔ tdG (pu64 x y)) ∧ (tdG (pu64 x y) → tdN (cl64 x y) = tdN (pu64 x y)) := by
  refine cl_pu ?_
  by_cases wd : widJ w
  · rw [decN_t wd] at dn
    exact Or.inl (dec64 dn)
  · obtain ⟨s, hB, _⟩ := o.resolve_left wd
    rw [BitVec.lt_def, cF_toNat] at hB
    rw [decN_f wd s] at dn
    exact dis_n hx (by omega) (dec64 dn)
abbrev gdP (c : Int) (is : Bool) (x y : N6) : Prop := tdG (narN c is x y).1 ∧ tdG (narN c is x y).2
theorem rC_t {k i : Nat} {m : N6} (h : ¬ i = k) : rC (wC σ k m) i = rC σ i := by rw [rC_wC, if_neg h]
theorem rC_u {k : Nat} {m : N6} : rC (wC σ k m) k = m := by rw [rC_wC, if_pos rfl]
theorem no_pu {q : N6} (he : q = if c = 64 ∧ isC y then cl64 x y else (narN c false x y).1) (hC : c = 64 → (tdG (cl64 x y) ↔ tdG (pu64 x y)) ∧ (tdG (pu64 x y) → tdN (cl64 x y) = tdN (pu64 x y))) : (tdG q ↔ tdG (narN c false x y).1) ∧ (tdG (narN c false x y).1 → tdN q = tdN (narN c false x y).1) := by
  subst he
  by_cases h : c = 64 ∧ isC y
  · rw [if_pos h]
    have e : (narN c false x y).1 = pu64 x y := by
      obtain ⟨h1, h2⟩ := h
      subst h1
      show (if isC y ∧ false = true ∧ jV y &&& (jV y - 1#64) = 0#64 then ((jV x ||| jV y, jM x &&& ~~~ jV y, jA x, jB x, jC x, jD x), y) else if isC y ∧ false = false then ((jV x, jM x &&& ~~~ jV y, jA x, jB x, jC x, jD x), y) else (x, y)).1 = pu64 x y
      rw [if_neg (fun z => Bool.noConfusion z.2.1), if_pos ⟨h2, rfl⟩]
      rfl
    rw [e]
    exact hC h.1
  · rw [if_neg h]
    exact ⟨Iff.rfl, fun _ => rfl⟩
theorem T280a {c : Int} (hc : isCmp c) (H : SC σ k j E w) (e42 : rC σ 42 = x) (e43 : rC σ 43 = y) (hA : c = 16 ∨ c = 80 → ¬ (isC x ∧ isC y)) (hB : ¬ rgt w → ∀ is : Bool, gdP c is x y ↔ tdG (narN c is x y).1) (hC : c = 64 → (tdG (cl64 x y) ↔ tdG (pu64 x y)) ∧ (tdG (pu64 x y) → tdN (cl64 x y) = tdN (pu64 x y))) :
    ∃ ρ a b, (MM 280 [mR (some 40), mI c] σ = RR (lkB tb280) (B280_85, [some (mR (some 40)), some (mI c), some (mI (b2 (¬ rgt w))), some (mI a), some (mI b)], [], ρ)) ∧ ((¬ a = 0) = gdP c true x y ∧ (¬ b = 0) = gdP c false x y) ∧ nfq ρ σ ∧ (rC ρ 47 = tdN (narN c true x y).1 ∧ (rgt w → rC ρ 48 = tdN (narN c true x y).2)) ∧ ((gdP c false x y → rC ρ 49 = tdN (narN c false x y).1) ∧ (rgt w → rC ρ 50 = tdN (narN c false x y).2)) := by
  obtain ⟨τ1, t74, ⟨⟨x47, x48⟩, x49, x50⟩, q1⟩ := T274 hc e42 e43 hA
  have N9 := no_pu x49 hC
  have H1 := SC_n q1 H
  have t43 := T243 H1
  have t47 := T73 (σ := τ1) (k := 47) (kc_47 _)
  obtain ⟨τ2, h2⟩ : ∃ τ2, τ2 = wC τ1 47 (tdN (rC τ1 47)) := ⟨_, rfl⟩
  rw [← h2, x47] at t47
  have t49 := T73 (σ := τ2) (k := 49) (kc_49 _)
  have f9 : rC τ2 49 = rC τ1 49 := by rw [h2]; exact rC_t (by decide)
  rw [f9] at t49
  obtain ⟨τ3, h3⟩ : ∃ τ3, τ3 = wC τ2 49 (tdN (rC τ1 49)) := ⟨_, rfl⟩
  rw [← h3] at t49
  have y47 : rC τ3 47 = tdN (narN c true x y).1 := by rw [h3, rC_t (by decide), h2, rC_u, x47]
  have y49 : rC τ3 49 = tdN (rC τ1 49) := by rw [h3, rC_u]
  have y48 : rC τ3 48 = (narN c true x y).2 := by rw [h3, rC_t (by decide), h2, rC_t (by decide), x48]
  have y50 : rC τ3 50 = (narN c false x y).2 := by rw [h3, rC_t (by decide), h2, rC_t (by decide), x50]
  have q3 : nfq τ3 σ := by rw [h3, h2]; exact nfq_t (nfq_w (by omega)) (nfq_t (nfq_w (by omega)) q1)
  have z9 : gdP c false x y → tdN (rC τ1 49) = tdN (narN c false x y).1 := fun z => N9.2 z.1
  clear h2 h3
  by_cases r : rgt w
  · have t48 := T73 (σ := τ3) (k := 48) (kc_48 _)
    rw [y48] at t48
    obtain ⟨τ4, h4⟩ : ∃ τ4, τ4 = wC τ3 48 (tdN (narN c true x y).2) := ⟨_, rfl⟩
    rw [← h4] at t48
    have t50 := T73 (σ := τ4) (k := 50) (kc_50 _)
    have f50 : rC τ4 50 = (narN c false x y).2 := by rw [h4, rC_t (by decide), y50]
    rw [f50] at t50
    obtain ⟨τ5, h5⟩ : ∃ τ5, τ5 = wC τ4 50 (tdN (narN c false x y).2) := ⟨_, rfl⟩
    rw [← h5] at t50
    have q5 : nfq τ5 σ := by rw [h5, h4]; exact nfq_t (nfq_w (by omega)) (nfq_t (nfq_w (by omega)) q3)
    rw [b2_yes r] at t43
    refine ⟨τ5, b2 (gdP c true x y), b2 (gdP c false x y), ?_, ⟨b2_n', b2_n'⟩, q5, ⟨?_, fun _ => ?_⟩, ⟨fun z => ?_, fun _ => ?_⟩⟩
    · rw [b2_no (p := ¬ rgt w) (not_not_intro r)]
      have s62 : RR (lkB tb280) (B280_50, [some (mR (some 40)), some (mI c), some (mI 0), some (mI (tdB (narN c true x y).1)), some (mI (tdB (rC τ1 49)))], [mI (tdB (narN c true x y).2)], τ4) = RR (lkB tb280) (B280_62, [some (mR (some 40)), some (mI c), some (mI 0), some (mI (tdB (narN c true x y).1)), some (mI (tdB (rC τ1 49)))], [mI (b2 (gdP c true x y))], τ4) := by
        by_cases g2 : tdG (narN c true x y).2
        · by_cases g1 : tdG (narN c true x y).1
          · rw [b2_yes (p := gdP c true x y) ⟨g1, g2⟩]
            simp only [e280_50, e280_61, Option.getD_some, Option.bind_some, Option.toList_some, Option.toList_none, List.cons_append, List.nil_append, and_self, and_true, true_and, false_and, and_false, ite_self, not_true_eq_false, not_false_eq_true, reduceIte, Nat.reduceEqDiff, ab_I, ab_L, ab_R, ao_I, ao_L, ao_R, gL_sL, gI_sI, gR_sR, gI_sL, gI_sR, gL_sI, gL_sR, gR_sI, gR_sL, tdB_0, eq_true g1, eq_true g2]
          · rw [b2_no (p := gdP c true x y) (fun z => g1 z.1)]
            simp only [e280_50, e280_61, Option.getD_some, Option.bind_some, Option.toList_some, Option.toList_none, List.cons_append, List.nil_append, and_self, and_true, true_and, false_and, and_false, ite_self, not_true_eq_false, not_false_eq_true, reduceIte, Nat.reduceEqDiff, ab_I, ab_L, ab_R, ao_I, ao_L, ao_R, gL_sL, gI_sI, gR_sR, gI_sL, gI_sR, gL_sI, gL_sR, gR_sI, gR_sL, tdB_0, eq_false g1, eq_true g2]
        · rw [b2_no (p := gdP c true x y) (fun z => g2 z.2)]
          simp only [e280_50, e280_61, Option.getD_some, Option.bind_some, Option.toList_some, Option.toList_none, List.cons_append, List.nil_append, and_self, and_true, true_and, false_and, and_false, ite_self, not_true_eq_false, not_false_eq_true, reduceIte, Nat.reduceEqDiff, ab_I, ab_L, ab_R, ao_I, ao_L, ao_R, gL_sL, gI_sI, gR_sR, gI_sL, gI_sR, gL_sI, gL_sR, gR_sI, gR_sL, tdB_0, eq_false g2]
      have s83 : ∀ u : Int, RR (lkB tb280) (B280_70, [some (mR (some 40)), some (mI c), some (mI 0), some (mI u), some (mI (tdB (rC τ1 49)))], [mI (tdB (narN c false x y).2)], τ5) = RR (lkB tb280) (B280_83, [some (mR (some 40)), some (mI c), some (mI 0), some (mI u), some (mI (tdB (rC τ1 49)))], [mI (b2 (gdP c false x y))], τ5) := by
        intro u
        by_cases g2 : tdG (narN c false x y).2
        · by_cases g1 : tdG (narN c false x y).1
          · have g1' : tdG (rC τ1 49) := N9.1.2 g1
            rw [b2_yes (p := gdP c false x y) ⟨g1, g2⟩]
            simp only [e280_70, e280_82, Option.getD_some, Option.bind_some, Option.toList_some, Option.toList_none, List.cons_append, List.nil_append, and_self, and_true, true_and, false_and, and_false, ite_self, not_true_eq_false, not_false_eq_true, reduceIte, Nat.reduceEqDiff, ab_I, ab_L, ab_R, ao_I, ao_L, ao_R, gL_sL, gI_sI, gR_sR, gI_sL, gI_sR, gL_sI, gL_sR, gR_sI, gR_sL, tdB_0, eq_true g1', eq_true g2]
          · have g1' : ¬ tdG (rC τ1 49) := fun z => g1 (N9.1.1 z)
            rw [b2_no (p := gdP c false x y) (fun z => g1 z.1)]
            simp only [e280_70, e280_82, Option.getD_some, Option.bind_some, Option.toList_some, Option.toList_none, List.cons_append, List.nil_append, and_self, and_true, true_and, false_and, and_false, ite_self, not_true_eq_false, not_false_eq_true, reduceIte, Nat.reduceEqDiff, ab_I, ab_L, ab_R, ao_I, ao_L, ao_R, gL_sL, gI_sI, gR_sR, gI_sL, gI_sR, gL_sI, gL_sR, gR_sI, gR_sL, tdB_0, eq_false g1', eq_true g2]
        · rw [b2_no (p := gdP c false x y) (fun z => g2 z.2)]
          simp only [e280_70, e280_82, Option.getD_some, Option.bind_some, Option.toList_some, Option.toList_none, List.cons_append, List.nil_append, and_self, and_true, true_and, false_and, and_false, ite_self, not_true_eq_false, not_false_eq_true, reduceIte, Nat.reduceEqDiff, ab_I, ab_L, ab_R, ao_I, ao_L, ao_R, gL_sL, gI_sI, gR_sR, gI_sL, gI_sR, gL_sI, gL_sR, gR_sI, gR_sL, tdB_0, eq_false g2]
      simp only [M280, e280_0, e280_6, e280_9, e280_13, e280_21, e280_29, e280_37, e280_62, e280_83, Option.getD_some, Option.bind_some, Option.toList_some, Option.toList_none, List.cons_append, List.nil_append, and_self, and_true, true_and, false_and, and_false, ite_self, not_true_eq_false, not_false_eq_true, reduceIte, Nat.reduceEqDiff, ab_I, ab_L, ab_R, ao_I, ao_L, ao_R, gL_sL, gI_sI, gR_sR, gI_sL, gI_sR, gL_sI, gL_sR, gR_sI, gR_sL, T266, t74, t43, oneI, t47, t49, t48, s62, t50, s83]
    · rw [h5, rC_t (by decide), h4, rC_t (by decide), y47]
    · rw [h5, rC_t (by decide), h4, rC_u]
    · rw [h5, rC_t (by decide), h4, rC_t (by decide), y49]
      exact z9 z
    · rw [h5, rC_u]
  · rw [b2_no r] at t43
    refine ⟨τ3, tdB (narN c true x y).1, tdB (rC τ1 49), ?_, ⟨?_, ?_⟩, q3, ⟨y47, fun z => absurd z r⟩, ⟨fun z => ?_, fun z => absurd z r⟩⟩
    · rw [b2_yes (p := ¬ rgt w) r]
      simp only [M280, e280_0, e280_6, e280_9, e280_13, e280_21, e280_29, e280_37, Option.getD_some, Option.bind_some, Option.toList_some, Option.toList_none, List.cons_append, List.nil_append, and_self, and_true, true_and, false_and, and_false, ite_self, not_true_eq_false, not_false_eq_true, reduceIte, Nat.reduceEqDiff, ab_I, ab_L, ab_R, ao_I, ao_L, ao_R, gL_sL, gI_sI, gR_sR, gI_sL, gI_sR, gL_sI, gL_sR, gR_sI, gR_sL, T266, t74, t43, oneI, t47, t49]
    · rw [tdB_n]
      exact propext (hB r true).symm
    · rw [tdB_n]
      exact propext (N9.1.trans (hB r false).symm)
    · rw [y49]
      exact z9 z
theorem CSt_f {S : ST} (h : CSt σ k S) : gI σ k 3 = (sF S : Int) := h.1.1
theorem nrw_v {is : Bool} {p q : N6} {fx : Int} (hf : (fx = 0) = rgt w) (e1 : p = tdN (narN c is x y).1) (e2 : rgt w → q = tdN (narN c is x y).2) : (if fx = 0 then wV (wV S (dR w) (numV p)) (sRr w) (numV q) else wV S (dR w) (numV p)) = nrwS S w c is x y := by
  unfold nrwS
  by_cases r : rgt w
  · rw [if_pos (hf.symm ▸ r : fx = 0), if_pos r, e1, e2 r]
  · rw [if_neg (hf.symm ▸ r : ¬ fx = 0), if_neg r, e1]
theorem T280 (H : SC σ k j E w) (hS : CSt σ k S) (P : PX S E t) (ht : gI σ 40 8 = t) (h4 : gI σ 40 4 = n) (h5 : gI σ 40 5 = g) (h3 : gI σ 40 3 = 0) (hl : ak σ 2 (gR σ k 6)) (hd : fD w ≤ 9) (hs : rgt w → fS w ≤ 9) (hc : isCmp (fC w)) (e42 : rC σ 42 = vn (rgV S (dR w))) (e43 : rC σ 43 = sdN S w) (hx : lowA (vn (rgV S (dR w))))
    (dn : decN (fC w) (decide (widJ w)) (vn (rgV S (dR w))) (sdN S w) = -1) (np : ¬ ptC S w (vn (rgV S (dR w))) (sdN S w)) : okc (MM 280 [mR (some 40), mI (fC w)] σ) none (fun τ => spj σ τ k j (numJ S w g n t)) := by
  have F := PX_F P
  have dd := H.1.2.1
  have o : widJ w ∨ ¬ isSgn (fC w) ∧ ¬ cF < jB (vn (rgV S (dR w))) ∧ ¬ cF < jB (sdN S w) := Classical.byContradiction fun z => np (Or.inr z)
  obtain ⟨x, hx'⟩ : ∃ x, x = vn (rgV S (dR w)) := ⟨_, rfl⟩
  obtain ⟨y, hy'⟩ : ∃ y, y = sdN S w := ⟨_, rfl⟩
  have nJ : numJ S w g n t = (@ite _ (gdP (fC w) true x y) (Classical.propDecidable _)
    (@ite _ (gdP (fC w) false x y) (Classical.propDecidable _)
      (0, some (n, nrwS S w (fC w) false x y), some (g, nrwS S w (fC w) true x y), t)
      (0, some (g, nrwS S w (fC w) true x y), none, t))
    (@ite _ (gdP (fC w) false x y) (Classical.propDecidable _)
      (0, some (n, nrwS S w (fC w) false x y), none, t)
      (0, none, none, t))) := by
    rw [hx', hy']
    unfold numJ
    rw [if_neg (show ¬ decN (fC w) (decide (widJ w)) (vn (rgV S (dR w))) (vn (sidJ S w)) = 1 by rw [dn]; decide), if_neg (show ¬ decN (fC w) (decide (widJ w)) (vn (rgV S (dR w))) (vn (sidJ S w)) = 0 by rw [dn]; decide), if_neg np]
  rw [nJ]
  rw [← hx'] at e42 hx dn o
  rw [← hy'] at e43 dn o
  have hB : ¬ rgt w → ∀ is : Bool, gdP (fC w) is x y ↔ tdG (narN (fC w) is x y).1 := fun r is => by
    have e : y = cstN (immJ w) := by
      rw [hy']
      show vn (sidJ S w) = _
      rw [sd_i r]
      rfl
    rw [e] at dn o ⊢
    exact nrB hc r dn o
  have hC : fC w = 64 → (tdG (cl64 x y) ↔ tdG (pu64 x y)) ∧ (tdG (pu64 x y) → tdN (cl64 x y) = tdN (pu64 x y)) := fun e => by
    rw [e] at dn o
    exact nrC hx dn o
  obtain ⟨ρ, a, b, s85, ⟨ea, eb⟩, q, ⟨r47, r48⟩, r49, r50⟩ := T280a hc H e42 e43 (fun z => nrA hc dn o z) hB hC
  clear nJ hB hC dn o np hx e42 e43
  have H1 := SC_n q H
  have S1 := CSt_n (sc_c H) q hS
  have l1 : ak ρ 2 (gR ρ k 6) := by
    rw [gR_r q.2.2]
    intro z
    have := hl z
    rwa [kd_r q.2.2]
  have fx0 : (b2 (¬ rgt w) = 0) = rgt w := by rw [b2_0', Classical.not_not]
  have g8 : gI ρ 40 8 = t := (q.1 _ _).trans ht
  have g4 : gI ρ 40 4 = n := (q.1 _ _).trans h4
  have g5 : gI ρ 40 5 = g := (q.1 _ _).trans h5
  have g3 : gI ρ 40 3 = 0 := (q.1 _ _).trans h3
  rw [s85]
  clear s85
  generalize hfx : b2 (¬ rgt w) = fx at *
  have hs0 : fx = 0 → fS w ≤ 9 := fun z => hs (fx0 ▸ z)
  by_cases gy : gdP (fC w) true x y
  · have na : ¬ a = 0 := ea ▸ gy
    by_cases gn : gdP (fC w) false x y
    · have nb : ¬ b = 0 := eb ▸ gn
      rw [if_pos gy, if_pos gn]
      obtain ⟨ρ1, t63, p⟩ := T263 H1 S1 P l1
      have H2 := SC_q p.1.1 H1
      have m47 : ∀ i, 41 ≤ i → i ≤ 50 → rC ρ1 i = rC ρ i := fun i h1 h2 => by
        have e : ∀ s, gL ρ1 i s = gL ρ i s := fun s => p.2.2.2 i s h1 h2
        unfold rC
        rw [e, e, e, e, e, e]
      obtain ⟨τ1, u1, c1, k1⟩ := T281 (p := 47) (q := 48) (fx := fx) H2 (CSt_f p.1.2.1) (Or.inr rfl) p.1.2.2 F hd hs0 (kc_47 _) (kc_48 _) (by omega) (by omega)
      have H3 := SC_q (sfq_j dd (csq_c k1)) H2
      have cS : CSt τ1 k S := CSt_s (k := j) (j := k) (by omega) (csq_c k1) p.1.2.1
      obtain ⟨τ2, u2, c2, k2⟩ := T281 (p := 49) (q := 50) (fx := fx) H3 (CSt_f cS) (Or.inl rfl) cS F hd hs0 (kc_49 _) (kc_50 _) (by omega) (by omega)
      have n1 : ∀ i, 42 ≤ i → i ≤ 50 → rC τ1 i = rC ρ1 i := fun i h1 h2 => by
        have e : ∀ s, gL τ1 i s = gL ρ1 i s := fun s => k1.2.1 _ _ (by have := H.1.2.2.2; omega)
        unfold rC
        rw [e, e, e, e, e, e]
      rw [nrw_v (x := x) (y := y) (c := fC w) (is := true) fx0 (by rw [m47 47 (by omega) (by omega), r47]) (fun z => by rw [m47 48 (by omega) (by omega), r48 z])] at c1
      rw [nrw_v (x := x) (y := y) (c := fC w) (is := false) fx0 (by rw [n1 49 (by omega) (by omega), m47 49 (by omega) (by omega), r49 gn]) (fun z => by rw [n1 50 (by omega) (by omega), m47 50 (by omega) (by omega), r50 z])] at c2
      refine okc_o (τ := τ2) ?_ ⟨sfq_t (sfq_c k2) (sfq_t (sfq_j dd (csq_c k1)) (sfq_t p.1.1 (sfq_n q))), fun _ => ⟨?_, ⟨c2, ?_⟩, ⟨?_, ?_, CSt_s dd (csq_c k2) c1⟩, ?_, ?_⟩⟩
      · simp only [e280_85, e280_98, e280_115, e280_132, Option.getD_some, Option.bind_some, Option.toList_some, Option.toList_none, List.cons_append, List.nil_append, and_self, and_true, true_and, false_and, and_false, ite_self, not_true_eq_false, not_false_eq_true, reduceIte, Nat.reduceEqDiff, ab_I, ab_L, ab_R, ao_I, ao_L, ao_R, gL_sL, gI_sI, gR_sR, gI_sL, gI_sR, gL_sI, gL_sR, gR_sI, gR_sL, eq_false na, eq_false nb, t63, sc_o H2, u1, sc_h H3, u2]
      · rw [k2.1, k1.1, p.2.1.2.2.2]; exact g8
      · rw [k2.1, k1.1, p.2.1.2.1]; exact g4
      · rw [k2.1, k1.1, p.2.1.1]
      · rw [k2.1, k1.1, p.2.1.2.2.1]; exact g5
      · rw [k2.1, k1.1, p.2.2.1.1, q.1]
      · rw [gR_r k2.2.2, gR_r k1.2.2, p.2.2.1.2, gR_r q.2.2]
    · have nb : b = 0 := Classical.byContradiction fun z => gn (eb ▸ z)
      rw [if_pos gy, if_neg gn]
      have qi : sfq (sI ρ 40 4 (gI ρ 40 5)) ρ k j := sfq_i (by omega)
      have H2 := SC_q qi H1
      have S2 : CSt (sI ρ 40 4 (gI ρ 40 5)) k S := CSt_i (sc_c H) S1
      obtain ⟨τ1, u1, c1, k1⟩ := T281 (p := 47) (q := 48) (fx := fx) H2 (CSt_f S2) (Or.inl rfl) S2 F hd hs0 (kc_47 _) (kc_48 _) (by omega) (by omega)
      rw [nrw_v (x := x) (y := y) (c := fC w) (is := true) fx0 r47 r48] at c1
      refine okc_o (τ := τ1) ?_ ⟨sfq_t (sfq_c k1) (sfq_t qi (sfq_n q)), fun _ => ⟨?_, c1, ?_, ?_⟩⟩
      · simp only [e280_85, e280_135, e280_164, Option.getD_some, Option.bind_some, Option.toList_some, Option.toList_none, List.cons_append, List.nil_append, and_self, and_true, true_and, false_and, and_false, ite_self, not_true_eq_false, not_false_eq_true, reduceIte, Nat.reduceEqDiff, ab_I, ab_L, ab_R, ao_I, ao_L, ao_R, gL_sL, gI_sI, gR_sR, gI_sL, gI_sR, gL_sI, gL_sR, gR_sI, gR_sL, eq_false na, eq_true nb, sc_h H1, u1]
      · rw [k1.1, gI_sI, if_neg (by omega)]; exact g8
      · rw [k1.1, gI_sI, if_pos ⟨rfl, rfl⟩]; exact g5
      · rw [k1.1, gI_sI, if_neg (by omega)]; exact g3
  · have na : a = 0 := Classical.byContradiction fun z => gy (ea ▸ z)
    by_cases gn : gdP (fC w) false x y
    · have nb : ¬ b = 0 := eb ▸ gn
      rw [if_neg gy, if_pos gn]
      obtain ⟨τ1, u1, c1, k1⟩ := T281 (p := 49) (q := 50) (fx := fx) H1 (CSt_f S1) (Or.inl rfl) S1 F hd hs0 (kc_49 _) (kc_50 _) (by omega) (by omega)
      rw [nrw_v (x := x) (y := y) (c := fC w) (is := false) fx0 (r49 gn) r50] at c1
      refine okc_o (τ := τ1) ?_ ⟨sfq_t (sfq_c k1) (sfq_n q), fun _ => ⟨?_, c1, ?_, ?_⟩⟩
      · simp only [e280_85, e280_135, e280_189, Option.getD_some, Option.bind_some, Option.toList_some, Option.toList_none, List.cons_append, List.nil_append, and_self, and_true, true_and, false_and, and_false, ite_self, not_true_eq_false, not_false_eq_true, reduceIte, Nat.reduceEqDiff, ab_I, ab_L, ab_R, ao_I, ao_L, ao_R, gL_sL, gI_sI, gR_sR, gI_sL, gI_sR, gL_sI, gL_sR, gR_sI, gR_sL, eq_true na, eq_false nb, sc_h H1, u1]
      · rw [k1.1]; exact g8
      · rw [k1.1]; exact g4
      · rw [k1.1]; exact g3
    · have nb : b = 0 := Classical.byContradiction fun z => gn (eb ▸ z)
      rw [if_neg gy, if_neg gn]
      refine okc_o (τ := sI ρ 40 4 (-1)) ?_ ⟨sfq_t (sfq_i (by omega)) (sfq_n q), fun _ => ⟨?_, ?_, ?_⟩⟩
      · simp only [e280_85, e280_135, Option.getD_some, Option.bind_some, Option.toList_some, Option.toList_none, List.cons_append, List.nil_append, and_self, and_true, true_and, false_and, and_false, ite_self, not_true_eq_false, not_false_eq_true, reduceIte, Nat.reduceEqDiff, ab_I, ab_L, ab_R, ao_I, ao_L, ao_R, gL_sL, gI_sI, gR_sR, gI_sL, gI_sR, gL_sI, gL_sR, gR_sI, gR_sL, eq_true na, eq_true nb]
      · rw [gI_sI, if_neg (by omega)]; exact g8
      · rw [gI_sI, if_pos ⟨rfl, rfl⟩]
      · rw [gI_sI, if_neg (by omega)]; exact g3
end CGN
-- FILE 94.cgo
/-! ===== the class's jumps, whole ===== -/
section CGO
variable {τ σ ρ : MS} {k j : Nat} {E : EV} {w : B64} {S T : ST} {t n g i : Int} {x y : N6}
theorem spj_t {r : JR} (q : sfq ρ σ k j) (e7 : gI ρ k 7 = gI σ k 7) (e6 : gR ρ k 6 = gR σ k 6) (h : spj ρ τ k j r) : spj σ τ k j r := by
  refine ⟨sfq_t h.1 q, fun z => ?_⟩
  have b := h.2 z
  obtain ⟨f, r1, r2, t'⟩ := r
  cases r1 with
  | none => exact b
  | some p1 =>
    cases r2 with
    | none => exact b
    | some p2 =>
      obtain ⟨b0, b1, b2', b3, b4⟩ := b
      exact ⟨b0, b1, b2', b3.trans e7, b4.trans e6⟩
theorem numJ_1 : (numJ S w g n t).1 = 0 := by
  unfold numJ
  split
  · rfl
  · split
    · rfl
    · split
      · rfl
      · split
        · split <;> rfl
        · split <;> rfl
theorem goal_c (h0 : ¬ fC w = 0) (h8 : ¬ fC w = 128) : goal i w = i + 1 + fO w := by
  unfold goal
  rw [if_neg]
  unfold fC at h0 h8
  omega
theorem T262g (H : SC σ k j E w) (hS : CSt σ k S) (ht : gI σ 40 8 = t) (h4 : gI σ 40 4 = i + 1) (h3 : gI σ 40 3 = 0) (hop : fOp w = 5 ∨ fOp w = 6) (hg : -2147483648 ≤ goal i w ∧ goal i w < 2147483648) : okc (MM 262 [mR (some 40)] σ) (some (mI 0)) (fun τ => spj σ τ k j (0, some (goal i w, S), none, t)) := by
  have c0 : fC w = 0 := by unfold fC; omega
  have sc := sc_c H
  refine okc_o (τ := sI σ 40 4 (goal i w)) ?_ ⟨sfq_i (by omega), fun _ => ⟨?_, CSt_i sc hS, ?_, ?_⟩⟩
  · rcases hop with h | h
    · have e : goal i w = i + 1 + fO w := by
        unfold goal
        rw [if_neg (by omega)]
      rw [e] at hg ⊢
      simp only [M262, e262_0, e262_33, e262_43, Option.getD_some, Option.bind_some, Option.toList_some, Option.toList_none, List.cons_append, List.nil_append, and_self, and_true, true_and, false_and, and_false, ite_self, not_true_eq_false, not_false_eq_true, reduceIte, Nat.reduceEqDiff, ab_I, ab_L, ab_R, ao_I, ao_L, ao_R, gL_sL, gI_sI, gR_sR, gI_sL, gI_sR, gL_sI, gL_sR, gR_sI, gR_sL, sc_p H, sc_w H, mC, c0, h, T3, h4, w32_i hg.1 hg.2]
    · have e : goal i w = i + 1 + fI w := by
        unfold goal
        rw [if_pos (by omega)]
      rw [e] at hg ⊢
      have n5 : ¬ fOp w = 5 := by omega
      simp only [M262, e262_0, e262_43, Option.getD_some, Option.bind_some, Option.toList_some, Option.toList_none, List.cons_append, List.nil_append, and_self, and_true, true_and, false_and, and_false, ite_self, not_true_eq_false, not_false_eq_true, reduceIte, Nat.reduceEqDiff, ab_I, ab_L, ab_R, ao_I, ao_L, ao_R, gL_sL, gI_sI, gR_sR, gI_sL, gI_sR, gL_sI, gL_sR, gR_sI, gR_sL, sc_p H, sc_w H, mC, c0, n5, T4, h4, w32_i hg.1 hg.2]
  · rw [gI_sI, if_neg (by omega)]; exact ht
  · rw [gI_sI, if_pos ⟨rfl, rfl⟩]
  · rw [gI_sI, if_neg (by omega)]; exact h3
abbrev cKa (S : ST) (w : B64) : Int := vk (rgV S (dR w))
abbrev cKb (S : ST) (w : B64) : Int := vk (sidJ S w)
abbrev smC (w : B64) : Prop := fC w = 16 ∨ fC w = 80
abbrev loc8 (w : B64) (a b : Int) : List (Option MV) := [some (mR (some 40)), some (mI (fC w)), some (mI (b2 (widJ w))), some (mI a), some (mI b), some (mI (b2 (smC w))), none, none]
theorem L262a (H : SC σ k j E w) (hS : CSt σ k S) (P : PX S E t) (h4 : gI σ 40 4 = i + 1) (h0 : ¬ fC w = 0) (h8 : ¬ fC w = 128) (hd : fD w ≤ 10) (hs : rgt w → fS w ≤ 10) (hg : -2147483648 ≤ goal i w ∧ goal i w < 2147483648) :
    MM 262 [mR (some 40)] σ = RR (lkB tb262) (B262_116, [some (mR (some 40)), some (mI (fC w)), some (mI (b2 (widJ w))), some (mI (cKa S w)), none, none, none, none], [mI (cKb S w)], sI σ 40 5 (goal i w)) := by
  have F := PX_F P
  have e := goal_c (i := i) h0 h8
  rw [e] at hg ⊢
  obtain ⟨σ1, h1⟩ : ∃ σ1, σ1 = sI σ 40 5 (i + 1 + fO w) := ⟨_, rfl⟩
  have q1 : sfq σ1 σ k j := by rw [h1]; exact sfq_i (by omega)
  have H1 := SC_q q1 H
  have S1 : CSt σ1 k S := by rw [h1]; exact CSt_i (sc_c H) hS
  have wg := w32_i hg.1 hg.2
  have t41 := T241 H1 S1 F hd
  have t43 := T243 H1
  have td := T214r H1 S1 P (r := dR w) (dR_10 hd)
  have p1 := sc_p H1
  have s81 : MM 262 [mR (some 40)] σ = RR (lkB tb262) (B262_81, [some (mR (some 40)), some (mI (fC w)), none, none, none, none, none, none], [mI (b2 (widJ w))], σ1) := by
    by_cases wd : fL w = 5
    · rw [b2_yes (p := widJ w) wd]
      simp only [M262, e262_0, e262_61, Option.getD_some, Option.bind_some, Option.toList_some, Option.toList_none, List.cons_append, List.nil_append, and_self, and_true, true_and, false_and, and_false, ite_self, not_true_eq_false, not_false_eq_true, reduceIte, Nat.reduceEqDiff, ab_I, ab_L, ab_R, ao_I, ao_L, ao_R, gL_sL, gI_sI, gR_sR, gI_sL, gI_sR, gL_sI, gL_sR, gR_sI, gR_sL, sc_p H, sc_w H, mC, eq_false h0, T3, h4, wg, ← h1, p1, m7, eq_true wd]
    · rw [b2_no (p := widJ w) wd]
      simp only [M262, e262_0, e262_61, Option.getD_some, Option.bind_some, Option.toList_some, Option.toList_none, List.cons_append, List.nil_append, and_self, and_true, true_and, false_and, and_false, ite_self, not_true_eq_false, not_false_eq_true, reduceIte, Nat.reduceEqDiff, ab_I, ab_L, ab_R, ao_I, ao_L, ao_R, gL_sL, gI_sI, gR_sR, gI_sL, gI_sR, gL_sI, gL_sR, gR_sI, gR_sL, sc_p H, sc_w H, mC, eq_false h0, T3, h4, wg, ← h1, p1, m7, eq_false wd]
  rw [← h1, s81]
  clear wg h1
  by_cases r : rgt w
  · have t42 := T242 H1 S1 F (hs r)
    have ts := T214r H1 S1 P (r := sRr w) (dR_10 (hs r))
    have eB : cKb S w = vk (rgV S (sRr w)) := by show vk (sidJ S w) = _; rw [sd_r r]; unfold rgtV; rw [if_pos r]
    rw [b2_yes r] at t43
    rw [eB]
    simp only [e262_81, e262_90, e262_93, e262_98, e262_109, e262_112, Option.getD_some, Option.bind_some, Option.toList_some, Option.toList_none, List.cons_append, List.nil_append, and_self, and_true, true_and, false_and, and_false, ite_self, not_true_eq_false, not_false_eq_true, reduceIte, Nat.reduceEqDiff, ab_I, ab_L, ab_R, ao_I, ao_L, ao_R, gL_sL, gI_sI, gR_sR, gI_sL, gI_sR, gL_sI, gL_sR, gR_sI, gR_sL, t41, sc_h H1, sc_ao H1, td, t43, oneI, t42, ts]
  · have eB : cKb S w = 1 := by show vk (sidJ S w) = _; rw [sd_i r]; rfl
    rw [b2_no r] at t43
    rw [eB]
    simp only [e262_81, e262_90, e262_93, e262_98, Option.getD_some, Option.bind_some, Option.toList_some, Option.toList_none, List.cons_append, List.nil_append, and_self, and_true, true_and, false_and, and_false, ite_self, not_true_eq_false, not_false_eq_true, reduceIte, Nat.reduceEqDiff, ab_I, ab_L, ab_R, ao_I, ao_L, ao_R, gL_sL, gI_sI, gR_sR, gI_sL, gI_sR, gL_sI, gL_sR, gR_sI, gR_sL, t41, sc_h H1, sc_ao H1, td, t43]
theorem L262b (a : ¬ cKa S w = 0) (b : ¬ cKb S w = 0) : RR (lkB tb262) (B262_116, [some (mR (some 40)), some (mI (fC w)), some (mI (b2 (widJ w))), some (mI (cKa S w)), none, none, none, none], [mI (cKb S w)], σ) = RR (lkB tb262) (B262_146, [some (mR (some 40)), some (mI (fC w)), some (mI (b2 (widJ w))), some (mI (cKa S w)), some (mI (cKb S w)), none, none, none], [mI (b2 (smC w))], σ) := by
  by_cases c1 : fC w = 16
  · rw [b2_yes (p := smC w) (Or.inl c1)]
    simp only [e262_116, e262_141, Option.getD_some, Option.bind_some, Option.toList_some, Option.toList_none, List.cons_append, List.nil_append, and_self, and_true, true_and, false_and, and_false, ite_self, not_true_eq_false, not_false_eq_true, reduceIte, Nat.reduceEqDiff, ab_I, ab_L, ab_R, ao_I, ao_L, ao_R, gL_sL, gI_sI, gR_sR, gI_sL, gI_sR, gL_sI, gL_sR, gR_sI, gR_sL, eq_false a, eq_false b, eq_true c1]
  · by_cases c5 : fC w = 80
    · rw [b2_yes (p := smC w) (Or.inr c5)]
      simp only [e262_116, e262_141, Option.getD_some, Option.bind_some, Option.toList_some, Option.toList_none, List.cons_append, List.nil_append, and_self, and_true, true_and, false_and, and_false, ite_self, not_true_eq_false, not_false_eq_true, reduceIte, Nat.reduceEqDiff, ab_I, ab_L, ab_R, ao_I, ao_L, ao_R, gL_sL, gI_sI, gR_sR, gI_sL, gI_sR, gL_sI, gL_sR, gR_sI, gR_sL, eq_false a, eq_false b, eq_false c1, eq_true c5]
    · rw [b2_no (p := smC w) (fun z => z.elim c1 c5)]
      simp only [e262_116, e262_141, Option.getD_some, Option.bind_some, Option.toList_some, Option.toList_none, List.cons_append, List.nil_append, and_self, and_true, true_and, false_and, and_false, ite_self, not_true_eq_false, not_false_eq_true, reduceIte, Nat.reduceEqDiff, ab_I, ab_L, ab_R, ao_I, ao_L, ao_R, gL_sL, gI_sI, gR_sR, gI_sL, gI_sR, gL_sI, gL_sR, gR_sI, gR_sL, eq_false a, eq_false b, eq_false c1, eq_false c5]
abbrev ntC (S : ST) (w : B64) : Prop := ((¬ rgt w ∧ widJ w) ∧ (fC w = 16 ∨ fC w = 80) ∧ fI w = 0) ∧ ¬ cKa S w = 1
theorem L262c (H : SC σ k j E w) (h : ¬ ntC S w) : RR (lkB tb262) (B262_146, [some (mR (some 40)), some (mI (fC w)), some (mI (b2 (widJ w))), some (mI (cKa S w)), some (mI (cKb S w)), none, none, none], [mI (b2 (smC w))], σ) = RR (lkB tb262) (B262_200, loc8 w (cKa S w) (cKb S w), [], σ) := by
  have t43 := T243 H
  by_cases wd : widJ w
  · rw [b2_yes wd]
    by_cases sm : smC w
    · rw [b2_yes sm]
      by_cases r : rgt w
      · rw [b2_yes r] at t43
        simp only [e262_146, e262_161, Option.getD_some, Option.bind_some, Option.toList_some, Option.toList_none, List.cons_append, List.nil_append, and_self, and_true, true_and, false_and, and_false, ite_self, not_true_eq_false, not_false_eq_true, reduceIte, Nat.reduceEqDiff, ab_I, ab_L, ab_R, ao_I, ao_L, ao_R, gL_sL, gI_sI, gR_sR, gI_sL, gI_sR, gL_sI, gL_sR, gR_sI, gR_sL, oneI, t43]
      · rw [b2_no r] at t43
        by_cases f : fI w = 0
        · by_cases k1 : cKa S w = 1
          · simp only [e262_146, e262_161, e262_171, Option.getD_some, Option.bind_some, Option.toList_some, Option.toList_none, List.cons_append, List.nil_append, and_self, and_true, true_and, false_and, and_false, ite_self, not_true_eq_false, not_false_eq_true, reduceIte, Nat.reduceEqDiff, ab_I, ab_L, ab_R, ao_I, ao_L, ao_R, gL_sL, gI_sI, gR_sR, gI_sL, gI_sR, gL_sI, gL_sR, gR_sI, gR_sL, oneI, t43, sc_w H, T4, eq_true f, eq_true k1]
          · exact absurd ⟨⟨⟨r, wd⟩, sm, f⟩, k1⟩ h
        · simp only [e262_146, e262_161, e262_171, Option.getD_some, Option.bind_some, Option.toList_some, Option.toList_none, List.cons_append, List.nil_append, and_self, and_true, true_and, false_and, and_false, ite_self, not_true_eq_false, not_false_eq_true, reduceIte, Nat.reduceEqDiff, ab_I, ab_L, ab_R, ao_I, ao_L, ao_R, gL_sL, gI_sI, gR_sR, gI_sL, gI_sR, gL_sI, gL_sR, gR_sI, gR_sL, oneI, t43, sc_w H, T4, eq_false f]
    · rw [b2_no sm]
      simp only [e262_146, Option.getD_some, Option.bind_some, Option.toList_some, Option.toList_none, List.cons_append, List.nil_append, and_self, and_true, true_and, false_and, and_false, ite_self, not_true_eq_false, not_false_eq_true, reduceIte, Nat.reduceEqDiff, ab_I, ab_L, ab_R, ao_I, ao_L, ao_R, gL_sL, gI_sI, gR_sR, gI_sL, gI_sR, gL_sI, gL_sR, gR_sI, gR_sL, oneI]
  · rw [b2_no wd]
    simp only [e262_146, Option.getD_some, Option.bind_some, Option.toList_some, Option.toList_none, List.cons_append, List.nil_append, and_self, and_true, true_and, false_and, and_false, ite_self, not_true_eq_false, not_false_eq_true, reduceIte, Nat.reduceEqDiff, ab_I, ab_L, ab_R, ao_I, ao_L, ao_R, gL_sL, gI_sI, gR_sR, gI_sL, gI_sR, gL_sI, gL_sR, gR_sI, gR_sL]
theorem L262d (H : SC σ k j E w) (h : ntC S w) : RR (lkB tb262) (B262_146, [some (mR (some 40)), some (mI (fC w)), some (mI (b2 (widJ w))), some (mI (cKa S w)), some (mI (cKb S w)), none, none, none], [mI (b2 (smC w))], σ) = RR (lkB tb262) (B262_195, loc8 w (cKa S w) (cKb S w), [mI (b2 (fC w = 16)), mI (b2 (isMb (rgV S (dR w)))), mR (some 40)], σ) := by
  obtain ⟨⟨⟨r, wd⟩, sm, f⟩, k1⟩ := h
  have t43 := T243 H
  rw [b2_no r] at t43
  rw [b2_yes wd, b2_yes (p := smC w) sm]
  have t44 : MM 244 [mI (cKa S w)] σ = some (some (mI (b2 (isMb (rgV S (dR w))))), σ) := T244
  by_cases c1 : fC w = 16
  · rw [b2_yes c1]
    simp only [e262_146, e262_161, e262_171, e262_184, Option.getD_some, Option.bind_some, Option.toList_some, Option.toList_none, List.cons_append, List.nil_append, and_self, and_true, true_and, false_and, and_false, ite_self, not_true_eq_false, not_false_eq_true, reduceIte, Nat.reduceEqDiff, ab_I, ab_L, ab_R, ao_I, ao_L, ao_R, gL_sL, gI_sI, gR_sR, gI_sL, gI_sR, gL_sI, gL_sR, gR_sI, gR_sL, oneI, t43, sc_w H, T4, eq_true f, eq_false k1, t44, eq_true c1]
  · rw [b2_no c1]
    simp only [e262_146, e262_161, e262_171, e262_184, Option.getD_some, Option.bind_some, Option.toList_some, Option.toList_none, List.cons_append, List.nil_append, and_self, and_true, true_and, false_and, and_false, ite_self, not_true_eq_false, not_false_eq_true, reduceIte, Nat.reduceEqDiff, ab_I, ab_L, ab_R, ao_I, ao_L, ao_R, gL_sL, gI_sI, gR_sR, gI_sL, gI_sR, gL_sI, gL_sR, gR_sI, gR_sL, oneI, t43, sc_w H, T4, eq_true f, eq_false k1, t44, eq_false c1]
abbrev pwC (S : ST) (w : B64) : Prop := cKa S w = 7 ∧ cKb S w = 8
theorem L262e {a b : Int} : RR (lkB tb262) (B262_245, loc8 w a b, [], σ) = RR (lkB tb262) (B262_296, [some (mR (some 40)), some (mI (fC w)), some (mI (b2 (widJ w))), some (mI a), some (mI b), some (mI (b2 (smC w))), some (mI (b2 (isOrd (fC w)))), none], [mI (b2 (a = 7 ∧ b = 8))], σ) := by
  have s276 : RR (lkB tb262) (B262_245, loc8 w a b, [], σ) = RR (lkB tb262) (B262_276, loc8 w a b, [mI (b2 (isOrd (fC w)))], σ) := by
    by_cases c1 : fC w = 32
    · rw [b2_yes (p := isOrd (fC w)) (Or.inl c1)]
      simp only [e262_245, e262_271, Option.getD_some, Option.bind_some, Option.toList_some, Option.toList_none, List.cons_append, List.nil_append, and_self, and_true, true_and, false_and, and_false, ite_self, not_true_eq_false, not_false_eq_true, reduceIte, Nat.reduceEqDiff, ab_I, ab_L, ab_R, ao_I, ao_L, ao_R, gL_sL, gI_sI, gR_sR, gI_sL, gI_sR, gL_sI, gL_sR, gR_sI, gR_sL, eq_true c1]
    · by_cases c2 : fC w = 48
      · rw [b2_yes (p := isOrd (fC w)) (Or.inr (Or.inl c2))]
        simp only [e262_245, e262_271, Option.getD_some, Option.bind_some, Option.toList_some, Option.toList_none, List.cons_append, List.nil_append, and_self, and_true, true_and, false_and, and_false, ite_self, not_true_eq_false, not_false_eq_true, reduceIte, Nat.reduceEqDiff, ab_I, ab_L, ab_R, ao_I, ao_L, ao_R, gL_sL, gI_sI, gR_sR, gI_sL, gI_sR, gL_sI, gL_sR, gR_sI, gR_sL, eq_false c1, eq_true c2]
      · by_cases c3 : fC w = 160
        · rw [b2_yes (p := isOrd (fC w)) (Or.inr (Or.inr (Or.inl c3)))]
          simp only [e262_245, e262_271, Option.getD_some, Option.bind_some, Option.toList_some, Option.toList_none, List.cons_append, List.nil_append, and_self, and_true, true_and, false_and, and_false, ite_self, not_true_eq_false, not_false_eq_true, reduceIte, Nat.reduceEqDiff, ab_I, ab_L, ab_R, ao_I, ao_L, ao_R, gL_sL, gI_sI, gR_sR, gI_sL, gI_sR, gL_sI, gL_sR, gR_sI, gR_sL, eq_false c1, eq_false c2, eq_true c3]
        · by_cases c4 : fC w = 176
          · rw [b2_yes (p := isOrd (fC w)) (Or.inr (Or.inr (Or.inr c4)))]
            simp only [e262_245, e262_271, Option.getD_some, Option.bind_some, Option.toList_some, Option.toList_none, List.cons_append, List.nil_append, and_self, and_true, true_and, false_and, and_false, ite_self, not_true_eq_false, not_false_eq_true, reduceIte, Nat.reduceEqDiff, ab_I, ab_L, ab_R, ao_I, ao_L, ao_R, gL_sL, gI_sI, gR_sR, gI_sL, gI_sR, gL_sI, gL_sR, gR_sI, gR_sL, eq_false c1, eq_false c2, eq_false c3, eq_true c4]
          · rw [b2_no (p := isOrd (fC w)) (fun z => by rcases z with z | z | z | z <;> contradiction)]
            simp only [e262_245, e262_271, Option.getD_some, Option.bind_some, Option.toList_some, Option.toList_none, List.cons_append, List.nil_append, and_self, and_true, true_and, false_and, and_false, ite_self, not_true_eq_false, not_false_eq_true, reduceIte, Nat.reduceEqDiff, ab_I, ab_L, ab_R, ao_I, ao_L, ao_R, gL_sL, gI_sI, gR_sR, gI_sL, gI_sR, gL_sI, gL_sR, gR_sI, gR_sL, eq_false c1, eq_false c2, eq_false c3, eq_false c4]
  rw [s276]
  by_cases a7 : a = 7
  · by_cases b8 : b = 8
    · rw [b2_yes (p := a = 7 ∧ b = 8) ⟨a7, b8⟩]
      simp only [e262_276, e262_295, Option.getD_some, Option.bind_some, Option.toList_some, Option.toList_none, List.cons_append, List.nil_append, and_self, and_true, true_and, false_and, and_false, ite_self, not_true_eq_false, not_false_eq_true, reduceIte, Nat.reduceEqDiff, ab_I, ab_L, ab_R, ao_I, ao_L, ao_R, gL_sL, gI_sI, gR_sR, gI_sL, gI_sR, gL_sI, gL_sR, gR_sI, gR_sL, eq_true a7, eq_true b8]
    · rw [b2_no (p := a = 7 ∧ b = 8) (fun z => b8 z.2)]
      simp only [e262_276, e262_295, Option.getD_some, Option.bind_some, Option.toList_some, Option.toList_none, List.cons_append, List.nil_append, and_self, and_true, true_and, false_and, and_false, ite_self, not_true_eq_false, not_false_eq_true, reduceIte, Nat.reduceEqDiff, ab_I, ab_L, ab_R, ao_I, ao_L, ao_R, gL_sL, gI_sI, gR_sR, gI_sL, gI_sR, gL_sI, gL_sR, gR_sI, gR_sL, eq_true a7, eq_false b8]
  · rw [b2_no (p := a = 7 ∧ b = 8) (fun z => a7 z.1)]
    simp only [e262_276, e262_295, Option.getD_some, Option.bind_some, Option.toList_some, Option.toList_none, List.cons_append, List.nil_append, and_self, and_true, true_and, false_and, and_false, ite_self, not_true_eq_false, not_false_eq_true, reduceIte, Nat.reduceEqDiff, ab_I, ab_L, ab_R, ao_I, ao_L, ao_R, gL_sL, gI_sI, gR_sR, gI_sL, gI_sR, gL_sI, gL_sR, gR_sI, gR_sL, eq_false a7]
theorem T262c (H : SC σ k j E w) (hS : CSt σ k S) (P : PX S E t) (ht : gI σ 40 8 = t) (h4 : gI σ 40 4 = i + 1) (h3 : gI σ 40 3 = 0) (hl : ak σ 2 (gR σ k 6)) (h0 : ¬ fC w = 0) (hc : isCmp (fC w)) (h56 : fL w = 5 ∨ fL w = 6) (hd : fD w ≤ 10) (hs : rgt w → fS w ≤ 10) (hg : -2147483648 ≤ goal i w ∧ goal i w < 2147483648) :
    okc (MM 262 [mR (some 40)] σ) (some (mI (cmpJ S w (goal i w) (i + 1) t).1)) (fun τ => spj σ τ k j (cmpJ S w (goal i w) (i + 1) t)) := by
  have F := PX_F P
  have h8 : ¬ fC w = 128 := fun z => by rw [z] at hc; exact absurd hc (by decide)
  rw [L262a H hS P h4 h0 h8 hd hs hg]
  obtain ⟨σ1, e1⟩ : ∃ σ1, σ1 = sI σ 40 5 (goal i w) := ⟨_, rfl⟩
  rw [← e1]
  have q1 : sfq σ1 σ k j := by rw [e1]; exact sfq_i (by omega)
  have H1 := SC_q q1 H
  have S1 : CSt σ1 k S := by rw [e1]; exact CSt_i (sc_c H) hS
  have u8 : gI σ1 40 8 = t := by rw [e1, gI_sI, if_neg (by omega)]; exact ht
  have u4 : gI σ1 40 4 = i + 1 := by rw [e1, gI_sI, if_neg (by omega)]; exact h4
  have u5 : gI σ1 40 5 = goal i w := by rw [e1, gI_sI, if_pos ⟨rfl, rfl⟩]
  have u3 : gI σ1 40 3 = 0 := by rw [e1, gI_sI, if_neg (by omega)]; exact h3
  have l1 : ak σ1 2 (gR σ1 k 6) := by rw [e1]; exact hl
  have v7 : gI σ1 k 7 = gI σ k 7 := by rw [e1, gI_sI, if_neg (by have := sc_c H; omega)]
  have v6 : gR σ1 k 6 = gR σ k 6 := by rw [e1]; rfl
  clear e1 hS ht h4 h3 hl H
  generalize hgg : goal i w = g at *
  generalize hnn : i + 1 = n at *
  suffices h : okc (RR (lkB tb262) (B262_116, [some (mR (some 40)), some (mI (fC w)), some (mI (b2 (widJ w))), some (mI (cKa S w)), none, none, none, none], [mI (cKb S w)], σ1)) (some (mI (cmpJ S w g n t).1)) (fun τ => spj σ1 τ k j (cmpJ S w g n t)) by
    obtain ⟨τ, a, b⟩ := h
    exact ⟨τ, a, spj_t q1 v7 v6 b⟩
  unfold cmpJ
  by_cases z0 : cKa S w = 0 ∨ cKb S w = 0
  · rw [if_pos z0]
    refine okc_o (τ := σ1) ?_ (spj_f (by decide) (sfq_r _ _ _))
    by_cases za : cKa S w = 0
    · simp only [e262_116, Option.getD_some, Option.bind_some, Option.toList_some, Option.toList_none, List.cons_append, List.nil_append, and_self, and_true, true_and, false_and, and_false, ite_self, not_true_eq_false, not_false_eq_true, reduceIte, Nat.reduceEqDiff, ab_I, ab_L, ab_R, ao_I, ao_L, ao_R, gL_sL, gI_sI, gR_sR, gI_sL, gI_sR, gL_sI, gL_sR, gR_sI, gR_sL, eq_true za]
    · have zb := z0.resolve_left za
      simp only [e262_116, Option.getD_some, Option.bind_some, Option.toList_some, Option.toList_none, List.cons_append, List.nil_append, and_self, and_true, true_and, false_and, and_false, ite_self, not_true_eq_false, not_false_eq_true, reduceIte, Nat.reduceEqDiff, ab_I, ab_L, ab_R, ao_I, ao_L, ao_R, gL_sL, gI_sI, gR_sR, gI_sL, gI_sR, gL_sI, gL_sR, gR_sI, gR_sL, eq_false za, eq_true zb]
  · rw [if_neg z0, L262b (fun z => z0 (Or.inl z)) (fun z => z0 (Or.inr z))]
    have t44a : MM 244 [mI (cKa S w)] σ1 = some (some (mI (b2 (isMb (rgV S (dR w))))), σ1) := T244
    have t44b : MM 244 [mI (cKb S w)] σ1 = some (some (mI (b2 (isMb (sidJ S w)))), σ1) := T244
    by_cases nn : cKa S w = 1 ∧ cKb S w = 1
    · rw [if_pos nn, L262c H1 (fun z => z.2 nn.1)]
      have na : ¬ isMb (rgV S (dR w)) := fun z => by
        have z : cKa S w = 6 ∨ cKa S w = 10 := z
        omega
      have nb : ¬ isMb (sidJ S w) := fun z => by
        have z : cKb S w = 6 ∨ cKb S w = 10 := z
        omega
      rw [b2_no na] at t44a
      rw [b2_no nb] at t44b
      rw [numJ_1]
      have s212 : RR (lkB tb262) (B262_200, loc8 w (cKa S w) (cKb S w), [], σ1) = (MM 267 [mR (some 40), mI (fC w), mI (b2 (widJ w))] σ1).bind (fun q => RR (lkB tb262) (B262_235, loc8 w (cKa S w) (cKb S w), q.1.toList ++ [], q.2)) := by
        simp only [e262_200, e262_204, e262_212, Option.getD_some, Option.bind_some, Option.toList_some, Option.toList_none, List.cons_append, List.nil_append, and_self, and_true, true_and, false_and, and_false, ite_self, not_true_eq_false, not_false_eq_true, reduceIte, Nat.reduceEqDiff, ab_I, ab_L, ab_R, ao_I, ao_L, ao_R, gL_sL, gI_sI, gR_sR, gI_sL, gI_sR, gL_sI, gL_sR, gR_sI, gR_sL, t44a, t44b, eq_true nn.1, eq_true nn.2]
      rw [s212]
      have d9 : fD w ≤ 9 := by
        apply Classical.byContradiction
        intro z
        have e : dR w = 10 := by show (fD w).toNat = 10; omega
        have : cKa S w = 3 := by
          show vk (rgV S (dR w)) = 3
          rw [e]
          rfl
        omega
      have s9 : rgt w → fS w ≤ 9 := fun r => by
        apply Classical.byContradiction
        intro z
        have := hs r
        have e : sRr w = 10 := by show (fS w).toNat = 10; omega
        have : cKb S w = 3 := by
          show vk (sidJ S w) = 3
          rw [sd_r r]
          unfold rgtV
          rw [if_pos r, e]
          rfl
        omega
      rcases T267 H1 S1 P u8 u4 u5 u3 l1 hd hs hc h56 nn.1 nn.2 with ⟨τ, a, b⟩ | ⟨⟨dn, np⟩, τ, a, ⟨q, e42, e43⟩⟩
      · rw [a]
        refine okc_o (τ := τ) ?_ b
        simp only [e262_235, e262_243, Option.getD_some, Option.bind_some, Option.toList_some, Option.toList_none, List.cons_append, List.nil_append, and_self, and_true, true_and, false_and, and_false, ite_self, not_true_eq_false, not_false_eq_true, reduceIte, Nat.reduceEqDiff, ab_I, ab_L, ab_R, ao_I, ao_L, ao_R, gL_sL, gI_sI, gR_sR, gI_sL, gI_sR, gL_sI, gL_sR, gR_sI, gR_sL, oneI]
      · rw [a]
        have hx : lowA (vn (rgV S (dR w))) := (x_r P.2.2.1 P.1.1.1 (dR_10 hd)).1.2.2.2 nn.1
        have l2 : ak τ 2 (gR τ k 6) := by
          rw [gR_r q.2.2]
          intro z
          have := l1 z
          rwa [kd_r q.2.2]
        obtain ⟨τ2, a2, b2'⟩ := T280 (SC_n q H1) (CSt_n (sc_c H1) q S1) P ((q.1 _ _).trans u8) ((q.1 _ _).trans u4) ((q.1 _ _).trans u5) ((q.1 _ _).trans u3) l2 d9 s9 hc e42 e43 hx dn np
        refine okc_o (τ := τ2) ?_ (spj_t (sfq_n q) (q.1 _ _) (gR_r q.2.2) b2')
        simp only [e262_235, e262_243, Option.getD_some, Option.bind_some, Option.toList_some, Option.toList_none, List.cons_append, List.nil_append, and_self, and_true, true_and, false_and, and_false, ite_self, not_true_eq_false, not_false_eq_true, reduceIte, Nat.reduceEqDiff, ab_I, ab_L, ab_R, ao_I, ao_L, ao_R, gL_sL, gI_sI, gR_sR, gI_sL, gI_sR, gL_sI, gL_sR, gR_sI, gR_sL, a2]
    · rw [if_neg nn]
      by_cases nt : ntC S w
      · rw [L262d H1 nt]
        obtain ⟨nt1, k1⟩ := nt
        by_cases mb : isMb (rgV S (dR w))
        · rw [if_pos ⟨nt1, mb⟩, b2_yes mb]
          have z01 : b2 (fC w = 16) = 0 ∨ b2 (fC w = 16) = 1 := by
            by_cases c : fC w = 16
            · rw [b2_yes c]; exact Or.inr rfl
            · rw [b2_no c]; exact Or.inl rfl
          obtain ⟨τ, a, b⟩ := T264 H1 S1 P u8 u4 u5 hd l1 mb z01
          by_cases c : fC w = 16
          · rw [b2_yes c] at a b ⊢
            rw [if_pos c]
            rw [if_pos rfl] at b
            refine okc_o (τ := τ) ?_ b
            simp only [e262_195, e262_198, Option.getD_some, Option.bind_some, Option.toList_some, Option.toList_none, List.cons_append, List.nil_append, and_self, and_true, true_and, false_and, and_false, ite_self, not_true_eq_false, not_false_eq_true, reduceIte, Nat.reduceEqDiff, ab_I, ab_L, ab_R, ao_I, ao_L, ao_R, gL_sL, gI_sI, gR_sR, gI_sL, gI_sR, gL_sI, gL_sR, gR_sI, gR_sL, a]
          · rw [b2_no c] at a b ⊢
            rw [if_neg c]
            rw [if_neg (by decide)] at b
            refine okc_o (τ := τ) ?_ b
            simp only [e262_195, e262_198, Option.getD_some, Option.bind_some, Option.toList_some, Option.toList_none, List.cons_append, List.nil_append, and_self, and_true, true_and, false_and, and_false, ite_self, not_true_eq_false, not_false_eq_true, reduceIte, Nat.reduceEqDiff, ab_I, ab_L, ab_R, ao_I, ao_L, ao_R, gL_sL, gI_sI, gR_sR, gI_sL, gI_sR, gL_sI, gL_sR, gR_sI, gR_sL, a]
        · rw [if_neg (fun z => mb z.2), if_pos nt1, b2_no mb]
          by_cases c : fC w = 16
          · have c5 : ¬ fC w = 80 := by omega
            rw [b2_yes c, if_neg c5]
            refine okc_o (τ := sI σ1 40 4 (gI σ1 40 4)) ?_ ⟨sfq_i (by omega), fun _ => ⟨?_, CSt_i (sc_c H1) S1, ?_, ?_⟩⟩
            · simp only [e262_195, e262_198, M264, e264_0, Option.getD_some, Option.bind_some, Option.toList_some, Option.toList_none, List.cons_append, List.nil_append, and_self, and_true, true_and, false_and, and_false, ite_self, not_true_eq_false, not_false_eq_true, reduceIte, Nat.reduceEqDiff, ab_I, ab_L, ab_R, ao_I, ao_L, ao_R, gL_sL, gI_sI, gR_sR, gI_sL, gI_sR, gL_sI, gL_sR, gR_sI, gR_sL, oneI]
            · rw [gI_sI, if_neg (by omega)]; exact u8
            · rw [gI_sI, if_pos ⟨rfl, rfl⟩]; exact u4
            · rw [gI_sI, if_neg (by omega)]; exact u3
          · have c5 : fC w = 80 := nt1.2.1.resolve_left c
            rw [b2_no c, if_pos c5]
            refine okc_o (τ := sI σ1 40 4 (gI σ1 40 5)) ?_ ⟨sfq_i (by omega), fun _ => ⟨?_, CSt_i (sc_c H1) S1, ?_, ?_⟩⟩
            · simp only [e262_195, e262_198, M264, e264_0, Option.getD_some, Option.bind_some, Option.toList_some, Option.toList_none, List.cons_append, List.nil_append, and_self, and_true, true_and, false_and, and_false, ite_self, not_true_eq_false, not_false_eq_true, reduceIte, Nat.reduceEqDiff, ab_I, ab_L, ab_R, ao_I, ao_L, ao_R, gL_sL, gI_sI, gR_sR, gI_sL, gI_sR, gL_sI, gL_sR, gR_sI, gR_sL]
            · rw [gI_sI, if_neg (by omega)]; exact u8
            · rw [gI_sI, if_pos ⟨rfl, rfl⟩]; exact u5
            · rw [gI_sI, if_neg (by omega)]; exact u3
      · rw [L262c H1 nt]
        have nt0 : ¬ ((¬ rgt w ∧ widJ w) ∧ (fC w = 16 ∨ fC w = 80) ∧ fI w = 0) := fun z => by
          have k1 : cKa S w = 1 := Classical.byContradiction fun q => nt ⟨z, q⟩
          have kb : cKb S w = 1 := by show vk (sidJ S w) = 1; rw [sd_i z.1.1]; rfl
          exact nn ⟨k1, kb⟩
        rw [if_neg (fun z => nt0 z.1), if_neg nt0]
        by_cases ma : isMb (rgV S (dR w))
        · rw [if_pos (Or.inl ma)]
          rw [b2_yes ma] at t44a
          refine okc_o (τ := σ1) ?_ (spj_f (by decide) (sfq_r _ _ _))
          simp only [e262_200, e262_204, Option.getD_some, Option.bind_some, Option.toList_some, Option.toList_none, List.cons_append, List.nil_append, and_self, and_true, true_and, false_and, and_false, ite_self, not_true_eq_false, not_false_eq_true, reduceIte, Nat.reduceEqDiff, ab_I, ab_L, ab_R, ao_I, ao_L, ao_R, gL_sL, gI_sI, gR_sR, gI_sL, gI_sR, gL_sI, gL_sR, gR_sI, gR_sL, t44a, oneI]
        · rw [b2_no ma] at t44a
          by_cases mb : isMb (sidJ S w)
          · rw [if_pos (Or.inr mb)]
            rw [b2_yes mb] at t44b
            refine okc_o (τ := σ1) ?_ (spj_f (by decide) (sfq_r _ _ _))
            simp only [e262_200, e262_204, e262_212, Option.getD_some, Option.bind_some, Option.toList_some, Option.toList_none, List.cons_append, List.nil_append, and_self, and_true, true_and, false_and, and_false, ite_self, not_true_eq_false, not_false_eq_true, reduceIte, Nat.reduceEqDiff, ab_I, ab_L, ab_R, ao_I, ao_L, ao_R, gL_sL, gI_sI, gR_sR, gI_sL, gI_sR, gL_sI, gL_sR, gR_sI, gR_sL, t44a, t44b, oneI]
          · rw [if_neg (fun z => z.elim ma mb)]
            rw [b2_no mb] at t44b
            have s296 : RR (lkB tb262) (B262_200, loc8 w (cKa S w) (cKb S w), [], σ1) = RR (lkB tb262) (B262_296, [some (mR (some 40)), some (mI (fC w)), some (mI (b2 (widJ w))), some (mI (cKa S w)), some (mI (cKb S w)), some (mI (b2 (smC w))), some (mI (b2 (isOrd (fC w)))), none], [mI (b2 (cKa S w = 7 ∧ cKb S w = 8))], σ1) := by
              rw [← L262e]
              by_cases k1 : cKa S w = 1
              · have kb : ¬ cKb S w = 1 := fun z => nn ⟨k1, z⟩
                simp only [e262_200, e262_204, e262_212, Option.getD_some, Option.bind_some, Option.toList_some, Option.toList_none, List.cons_append, List.nil_append, and_self, and_true, true_and, false_and, and_false, ite_self, not_true_eq_false, not_false_eq_true, reduceIte, Nat.reduceEqDiff, ab_I, ab_L, ab_R, ao_I, ao_L, ao_R, gL_sL, gI_sI, gR_sR, gI_sL, gI_sR, gL_sI, gL_sR, gR_sI, gR_sL, t44a, t44b, eq_true k1, eq_false kb]
              · simp only [e262_200, e262_204, e262_212, Option.getD_some, Option.bind_some, Option.toList_some, Option.toList_none, List.cons_append, List.nil_append, and_self, and_true, true_and, false_and, and_false, ite_self, not_true_eq_false, not_false_eq_true, reduceIte, Nat.reduceEqDiff, ab_I, ab_L, ab_R, ao_I, ao_L, ao_R, gL_sL, gI_sI, gR_sR, gI_sL, gI_sR, gL_sI, gL_sR, gR_sI, gR_sL, t44a, t44b, eq_false k1]
            rw [s296]
            clear s296 t44a t44b
            have rr : cKb S w = 7 ∨ cKb S w = 8 → rgt w := fun z => by
              apply Classical.byContradiction
              intro r
              have kb : cKb S w = 1 := by show vk (sidJ S w) = 1; rw [sd_i r]; rfl
              omega
            by_cases wo : widJ w ∧ isOrd (fC w)
            · by_cases p78 : cKa S w = 7 ∧ cKb S w = 8
              · have r := rr (Or.inr p78.2)
                rw [if_pos ⟨⟨wo.1, r⟩, wo.2, p78.1, p78.2⟩, b2_yes p78, b2_yes wo.1, b2_yes wo.2]
                obtain ⟨τ, a, b⟩ := T265 (z := 1) H1 S1 P u8 u4 u5 hd (hs r) l1 (Or.inr rfl) wo.2
                rw [if_pos rfl, if_pos rfl] at b
                refine okc_o (τ := τ) ?_ b
                simp only [e262_296, e262_325, e262_332, Option.getD_some, Option.bind_some, Option.toList_some, Option.toList_none, List.cons_append, List.nil_append, and_self, and_true, true_and, false_and, and_false, ite_self, not_true_eq_false, not_false_eq_true, reduceIte, Nat.reduceEqDiff, ab_I, ab_L, ab_R, ao_I, ao_L, ao_R, gL_sL, gI_sI, gR_sR, gI_sL, gI_sR, gL_sI, gL_sR, gR_sI, gR_sL, oneI, a]
                rfl
              · rw [if_neg (fun z => p78 ⟨z.2.2.1, z.2.2.2⟩), b2_no p78]
                by_cases p87 : cKa S w = 8 ∧ cKb S w = 7
                · have r := rr (Or.inl p87.2)
                  rw [if_pos ⟨⟨wo.1, r⟩, wo.2, p87.1, p87.2⟩, b2_yes wo.1, b2_yes wo.2]
                  have es : sidJ S w = rgV S (sRr w) := by rw [sd_r r]; unfold rgtV; rw [if_pos r]
                  obtain ⟨τ, a, b⟩ := T265 (z := 0) H1 S1 P u8 u4 u5 hd (hs r) l1 (Or.inl rfl) wo.2
                  rw [if_neg (show ¬ (0 : Int) = 1 by decide), if_neg (show ¬ (0 : Int) = 1 by decide)] at b
                  rw [es]
                  refine okc_o (τ := τ) ?_ b
                  have ka : cKa S w = 8 := p87.1
                  have kb : vk (rgV S (sRr w)) = 7 := by rw [← es]; exact p87.2
                  simp only [e262_296, e262_325, e262_332, Option.getD_some, Option.bind_some, Option.toList_some, Option.toList_none, List.cons_append, List.nil_append, and_self, and_true, true_and, false_and, and_false, ite_self, not_true_eq_false, not_false_eq_true, reduceIte, Nat.reduceEqDiff, ab_I, ab_L, ab_R, ao_I, ao_L, ao_R, gL_sL, gI_sI, gR_sR, gI_sL, gI_sR, gL_sI, gL_sR, gR_sI, gR_sL, oneI, eq_true ka, eq_true kb, a]
                  rfl
                · rw [if_neg (fun z => p87 ⟨z.2.2.1, z.2.2.2⟩)]
                  refine okc_o (τ := σ1) ?_ (spj_f (by decide) (sfq_r _ _ _))
                  rw [b2_yes wo.1, b2_yes wo.2]
                  by_cases ka : cKa S w = 8
                  · have kb : ¬ cKb S w = 7 := fun z => p87 ⟨ka, z⟩
                    simp only [e262_296, Option.getD_some, Option.bind_some, Option.toList_some, Option.toList_none, List.cons_append, List.nil_append, and_self, and_true, true_and, false_and, and_false, ite_self, not_true_eq_false, not_false_eq_true, reduceIte, Nat.reduceEqDiff, ab_I, ab_L, ab_R, ao_I, ao_L, ao_R, gL_sL, gI_sI, gR_sR, gI_sL, gI_sR, gL_sI, gL_sR, gR_sI, gR_sL, oneI, eq_true ka, eq_false kb]
                  · simp only [e262_296, Option.getD_some, Option.bind_some, Option.toList_some, Option.toList_none, List.cons_append, List.nil_append, and_self, and_true, true_and, false_and, and_false, ite_self, not_true_eq_false, not_false_eq_true, reduceIte, Nat.reduceEqDiff, ab_I, ab_L, ab_R, ao_I, ao_L, ao_R, gL_sL, gI_sI, gR_sR, gI_sL, gI_sR, gL_sI, gL_sR, gR_sI, gR_sL, oneI, eq_false ka]
            · rw [if_neg (fun z => wo ⟨z.1.1, z.2.1⟩), if_neg (fun z => wo ⟨z.1.1, z.2.1⟩)]
              refine okc_o (τ := σ1) ?_ (spj_f (by decide) (sfq_r _ _ _))
              by_cases wd : widJ w
              · have od : ¬ isOrd (fC w) := fun z => wo ⟨wd, z⟩
                rw [b2_yes wd, b2_no od]
                simp only [e262_296, Option.getD_some, Option.bind_some, Option.toList_some, Option.toList_none, List.cons_append, List.nil_append, and_self, and_true, true_and, false_and, and_false, ite_self, not_true_eq_false, not_false_eq_true, reduceIte, Nat.reduceEqDiff, ab_I, ab_L, ab_R, ao_I, ao_L, ao_R, gL_sL, gI_sI, gR_sR, gI_sL, gI_sR, gL_sI, gL_sR, gR_sI, gR_sL, oneI]
              · rw [b2_no wd]
                simp only [e262_296, Option.getD_some, Option.bind_some, Option.toList_some, Option.toList_none, List.cons_append, List.nil_append, and_self, and_true, true_and, false_and, and_false, ite_self, not_true_eq_false, not_false_eq_true, reduceIte, Nat.reduceEqDiff, ab_I, ab_L, ab_R, ao_I, ao_L, ao_R, gL_sL, gI_sI, gR_sR, gI_sL, gI_sR, gL_sI, gL_sR, gR_sI, gR_sL]
end CGO
-- FILE 95.chl
/-! ===== the class's helpers: arguments ===== -/
section CHL
variable {τ σ ρ : MS} {k j pl : Nat} {E : EV} {w : B64} {S : ST} {t c : Int} {v : VL}
theorem wp1 {pl : Nat} (h : pl + 1 < 100000) : w32 ((pl : Int) + 1) = ((pl + 1 : Nat) : Int) := w_pl (c := 1) h
theorem wp2 {pl : Nat} (h : pl + 2 < 100000) : w32 ((pl : Int) + 2) = ((pl + 2 : Nat) : Int) := w_pl (c := 2) h
theorem wp3 {pl : Nat} (h : pl + 3 < 100000) : w32 ((pl : Int) + 3) = ((pl + 3 : Nat) : Int) := w_pl (c := 3) h
theorem wp4 {pl : Nat} (h : pl + 4 < 100000) : w32 ((pl : Int) + 4) = ((pl + 4 : Nat) : Int) := w_pl (c := 4) h
theorem T44 {m : Nat} (C : CEO σ E) (hm : m < 8) : MM 44 [mR (some 26), mI (m : Int)] σ = some (some (mI (b2 (0 ≤ E.1 m))), σ) := by
  obtain ⟨_, _, c1, c2⟩ := C m hm
  have n0 : ¬ (m : Int) < 0 := by omega
  have n8 : ¬ 8 ≤ (m : Int) := by omega
  have i0 : 0 ≤ (m : Int) := by omega
  have i8 : (m : Int) < 8 := by omega
  by_cases z : gI σ 29 m = 0
  · rw [b2_no (p := 0 ≤ E.1 m) (by have := c1 z; omega)]
    simp only [M44, e44_0, e44_23, Option.getD_some, Option.bind_some, Option.toList_some, Option.toList_none, List.cons_append, List.nil_append, and_self, and_true, true_and, false_and, and_false, ite_self, not_true_eq_false, not_false_eq_true, reduceIte, Nat.reduceEqDiff, ab_I, ab_L, ab_R, ao_I, ao_L, ao_R, gL_sL, gI_sI, gR_sR, gI_sL, gI_sR, gL_sI, gL_sR, gR_sI, gR_sL, n0, n8, g_29, i0, i8, Int.toNat_natCast, eq_true z]
  · rw [b2_yes (p := 0 ≤ E.1 m) (c2 z).2]
    simp only [M44, e44_0, e44_23, Option.getD_some, Option.bind_some, Option.toList_some, Option.toList_none, List.cons_append, List.nil_append, and_self, and_true, true_and, false_and, and_false, ite_self, not_true_eq_false, not_false_eq_true, reduceIte, Nat.reduceEqDiff, ab_I, ab_L, ab_R, ao_I, ao_L, ao_R, gL_sL, gI_sI, gR_sR, gI_sL, gI_sR, gL_sI, gL_sR, gR_sI, gR_sL, n0, n8, g_29, i0, i8, Int.toNat_natCast, eq_false z]
theorem T45 {m : Nat} (C : CEO σ E) (hm : m < 8) : MM 45 [mR (some 26), mI (m : Int), mI c] σ = some (some (mI (b2 (0 ≤ E.1 m ∧ E.1 m = c))), σ) := by
  have t44 := T44 C hm
  obtain ⟨_, _, c1, c2⟩ := C m hm
  have i0 : 0 ≤ (m : Int) := by omega
  have i8 : (m : Int) < 8 := by omega
  by_cases z : gI σ 29 m = 0
  · have n : ¬ 0 ≤ E.1 m := by have := c1 z; omega
    rw [b2_no n] at t44
    rw [b2_no (p := 0 ≤ E.1 m ∧ E.1 m = c) (fun q => n q.1)]
    simp only [M45, e45_0, e45_5, e45_22, Option.getD_some, Option.bind_some, Option.toList_some, Option.toList_none, List.cons_append, List.nil_append, and_self, and_true, true_and, false_and, and_false, ite_self, not_true_eq_false, not_false_eq_true, reduceIte, Nat.reduceEqDiff, ab_I, ab_L, ab_R, ao_I, ao_L, ao_R, gL_sL, gI_sI, gR_sR, gI_sL, gI_sR, gL_sI, gL_sR, gR_sI, gR_sL, t44]
  · obtain ⟨e, p⟩ := c2 z
    rw [b2_yes p] at t44
    by_cases q : gI σ 30 m = c
    · rw [b2_yes (p := 0 ≤ E.1 m ∧ E.1 m = c) ⟨p, e.trans q⟩]
      simp only [M45, e45_0, e45_5, e45_22, Option.getD_some, Option.bind_some, Option.toList_some, Option.toList_none, List.cons_append, List.nil_append, and_self, and_true, true_and, false_and, and_false, ite_self, not_true_eq_false, not_false_eq_true, reduceIte, Nat.reduceEqDiff, ab_I, ab_L, ab_R, ao_I, ao_L, ao_R, gL_sL, gI_sI, gR_sR, gI_sL, gI_sR, gL_sI, gL_sR, gR_sI, gR_sL, t44, oneI, g_30, i0, i8, Int.toNat_natCast, eq_true q]
    · rw [b2_no (p := 0 ≤ E.1 m ∧ E.1 m = c) (fun y => q (e.symm.trans y.2))]
      simp only [M45, e45_0, e45_5, e45_22, Option.getD_some, Option.bind_some, Option.toList_some, Option.toList_none, List.cons_append, List.nil_append, and_self, and_true, true_and, false_and, and_false, ite_self, not_true_eq_false, not_false_eq_true, reduceIte, Nat.reduceEqDiff, ab_I, ab_L, ab_R, ao_I, ao_L, ao_R, gL_sL, gI_sI, gR_sR, gI_sL, gI_sR, gL_sI, gL_sR, gR_sI, gR_sL, t44, oneI, g_30, i0, i8, Int.toNat_natCast, eq_false q]
theorem T46 {m : Nat} (C : CEO σ E) (hm : m < 8) : MM 46 [mR (some 26), mI (m : Int)] σ = some (some (mI (b2 (0 ≤ E.1 m ∧ E.1 m ≤ 1))), σ) := by
  have t44 := T44 C hm
  obtain ⟨_, _, c1, c2⟩ := C m hm
  have i0 : 0 ≤ (m : Int) := by omega
  have i8 : (m : Int) < 8 := by omega
  by_cases z : gI σ 29 m = 0
  · have n : ¬ 0 ≤ E.1 m := by have := c1 z; omega
    rw [b2_no n] at t44
    rw [b2_no (p := 0 ≤ E.1 m ∧ E.1 m ≤ 1) (fun q => n q.1)]
    simp only [M46, e46_0, e46_5, e46_27, e46_31, Option.getD_some, Option.bind_some, Option.toList_some, Option.toList_none, List.cons_append, List.nil_append, and_self, and_true, true_and, false_and, and_false, ite_self, not_true_eq_false, not_false_eq_true, reduceIte, Nat.reduceEqDiff, ab_I, ab_L, ab_R, ao_I, ao_L, ao_R, gL_sL, gI_sI, gR_sR, gI_sL, gI_sR, gL_sI, gL_sR, gR_sI, gR_sL, t44]
  · obtain ⟨e, p⟩ := c2 z
    rw [b2_yes p] at t44
    by_cases q : gI σ 30 m = 0
    · rw [b2_yes (p := 0 ≤ E.1 m ∧ E.1 m ≤ 1) (by omega)]
      simp only [M46, e46_0, e46_5, e46_27, e46_31, Option.getD_some, Option.bind_some, Option.toList_some, Option.toList_none, List.cons_append, List.nil_append, and_self, and_true, true_and, false_and, and_false, ite_self, not_true_eq_false, not_false_eq_true, reduceIte, Nat.reduceEqDiff, ab_I, ab_L, ab_R, ao_I, ao_L, ao_R, gL_sL, gI_sI, gR_sR, gI_sL, gI_sR, gL_sI, gL_sR, gR_sI, gR_sL, t44, oneI, g_30, i0, i8, Int.toNat_natCast, eq_true q]
    · by_cases q1 : gI σ 30 m = 1
      · rw [b2_yes (p := 0 ≤ E.1 m ∧ E.1 m ≤ 1) (by omega)]
        simp only [M46, e46_0, e46_5, e46_27, e46_31, Option.getD_some, Option.bind_some, Option.toList_some, Option.toList_none, List.cons_append, List.nil_append, and_self, and_true, true_and, false_and, and_false, ite_self, not_true_eq_false, not_false_eq_true, reduceIte, Nat.reduceEqDiff, ab_I, ab_L, ab_R, ao_I, ao_L, ao_R, gL_sL, gI_sI, gR_sR, gI_sL, gI_sR, gL_sI, gL_sR, gR_sI, gR_sL, t44, oneI, g_30, i0, i8, Int.toNat_natCast, eq_false q, eq_true q1]
      · rw [b2_no (p := 0 ≤ E.1 m ∧ E.1 m ≤ 1) (by omega)]
        simp only [M46, e46_0, e46_5, e46_27, e46_31, Option.getD_some, Option.bind_some, Option.toList_some, Option.toList_none, List.cons_append, List.nil_append, and_self, and_true, true_and, false_and, and_false, ite_self, not_true_eq_false, not_false_eq_true, reduceIte, Nat.reduceEqDiff, ab_I, ab_L, ab_R, ao_I, ao_L, ao_R, gL_sL, gI_sI, gR_sR, gI_sL, gI_sR, gL_sI, gL_sR, gR_sI, gR_sL, t44, oneI, g_30, i0, i8, Int.toNat_natCast, eq_false q, eq_false q1]
theorem T285 (H : SC σ k j E w) (hS : CSt σ k S) (P : PX S E t) : MM 285 [mR (some 40)] σ = some (some (mI (vw (rgV S 1) % 8)), σ) := by
  have F := PX_F P
  have r1 : 1 ≤ 10 := by decide
  have l := pR_lt F r1
  have hv := cAt_rg hS F.1 r1
  have wv := (okW_r P r1).2.2.1
  have t12 : MM 212 [mR (some k), mI 1] σ = some (some (mI ((pR S 1 : Nat) : Int)), σ) := T212r H hS P r1
  have l8 : pR S 1 + 8 < 100000 := by omega
  have g8 := gSt (sc_k H) (show pR S 1 + 8 < 1188 by omega)
  have lw : lI (iL (vw (rgV S 1))) = vw (rgV S 1) := lIi (by omega) (by omega)
  simp only [M285, e285_0, e285_15, Option.getD_some, Option.bind_some, Option.toList_some, Option.toList_none, List.cons_append, List.nil_append, and_self, and_true, true_and, false_and, and_false, ite_self, not_true_eq_false, not_false_eq_true, reduceIte, Nat.reduceEqDiff, ab_I, ab_L, ab_R, ao_I, ao_L, ao_R, gL_sL, gI_sI, gR_sR, gI_sL, gI_sR, gL_sI, gL_sR, gR_sI, gR_sL, sc_h H, sc_ao H, t12, wp8 l8, g8, Int.toNat_natCast, rd_8 hv, lw, iAnd7]
theorem T287 {m : Int} (H : SC σ k j E w) (hp : pl + 11 ≤ 1188) (hv : cAt σ k pl v) : MM 287 [mR (some 40), mI (pl : Int), mL (iL m)] σ = some (some (mI (b2 (¬ jA (vn v) = 0#64 ∧ ¬ iL m < jB (vn v)))), σ) := by
  have k1 := sc_k H
  have g3 := gSt k1 (show pl + 3 < 1188 by omega)
  have g4 := gSt k1 (show pl + 4 < 1188 by omega)
  have l3 : pl + 3 < 100000 := by omega
  have l4 : pl + 4 < 100000 := by omega
  by_cases a0 : jA (vn v) = 0#64
  · rw [b2_no (p := ¬ jA (vn v) = 0#64 ∧ ¬ iL m < jB (vn v)) (fun q => q.1 a0)]
    have a0' : jA (vn v) = BitVec.ofNat 64 0 := a0
    simp only [M287, e287_0, e287_31, e287_38, Option.getD_some, Option.bind_some, Option.toList_some, Option.toList_none, List.cons_append, List.nil_append, and_self, and_true, true_and, false_and, and_false, ite_self, not_true_eq_false, not_false_eq_true, reduceIte, Nat.reduceEqDiff, ab_I, ab_L, ab_R, ao_I, ao_L, ao_R, gL_sL, gI_sI, gR_sR, gI_sL, gI_sR, gL_sI, gL_sR, gR_sI, gR_sL, sc_h H, sc_ao H, wp3 l3, g3, Int.toNat_natCast, rd_3 hv, eq_true a0']
  · have a0' : ¬ jA (vn v) = BitVec.ofNat 64 0 := a0
    by_cases b0 : iL m < jB (vn v)
    · rw [b2_no (p := ¬ jA (vn v) = 0#64 ∧ ¬ iL m < jB (vn v)) (fun q => q.2 b0)]
      simp only [M287, e287_0, e287_31, e287_38, Option.getD_some, Option.bind_some, Option.toList_some, Option.toList_none, List.cons_append, List.nil_append, and_self, and_true, true_and, false_and, and_false, ite_self, not_true_eq_false, not_false_eq_true, reduceIte, Nat.reduceEqDiff, ab_I, ab_L, ab_R, ao_I, ao_L, ao_R, gL_sL, gI_sI, gR_sR, gI_sL, gI_sR, gL_sI, gL_sR, gR_sI, gR_sL, sc_h H, sc_ao H, wp3 l3, g3, Int.toNat_natCast, rd_3 hv, eq_false a0', wp4 l4, g4, rd_4 hv, T17, b2_0', eq_true b0]
    · rw [b2_yes (p := ¬ jA (vn v) = 0#64 ∧ ¬ iL m < jB (vn v)) ⟨a0, b0⟩]
      simp only [M287, e287_0, e287_31, e287_38, Option.getD_some, Option.bind_some, Option.toList_some, Option.toList_none, List.cons_append, List.nil_append, and_self, and_true, true_and, false_and, and_false, ite_self, not_true_eq_false, not_false_eq_true, reduceIte, Nat.reduceEqDiff, ab_I, ab_L, ab_R, ao_I, ao_L, ao_R, gL_sL, gI_sI, gR_sR, gI_sL, gI_sR, gL_sI, gL_sR, gR_sI, gR_sL, sc_h H, sc_ao H, wp3 l3, g3, Int.toNat_natCast, rd_3 hv, eq_false a0', wp4 l4, g4, rd_4 hv, T17, b2_0', eq_false b0]
/-- what an argument must be, beside a place of bytes -/
def wntP (E : EV) (v : VL) (c : Int) : Prop :=
  if c = 109 then vk v = 4 ∧ 0 ≤ E.1 (vw v).toNat ∧ E.1 (vw v).toNat ≤ 1
  else if c = 112 then vk v = 4 ∧ 2 ≤ E.1 (vw v).toNat ∧ E.1 (vw v).toNat ≤ 2
  else if c = 114 then vk v = 4 ∧ 3 ≤ E.1 (vw v).toNat ∧ E.1 (vw v).toNat ≤ 3
  else if c = 99 then vk v = 2
  else if c = 116 then vk v = 1 ∧ ¬ jA (vn v) = 0#64 ∧ ¬ 64#64 < jB (vn v)
  else if c = 119 then vk v = 1 ∧ ¬ jA (vn v) = 0#64 ∧ ¬ 128#64 < jB (vn v)
  else if c = 105 then vk v = 1 ∧ isC (vn v) ∧ 1 ≤ (jV (vn v)).toInt ∧ (jV (vn v)).toInt ≤ 64
  else if c = 104 then vk v = 9 ∧ vo v = 0 ∧ isC (vn v) ∧ jV (vn v) = 0#64
  else vk v = 1
noncomputable def wantI (E : EV) (v : VL) (c : Int) : Int := @ite Int (wntP E v c) (Classical.propDecidable _) 1 0
theorem wI {p : Prop} [d : Decidable p] (h : wntP E v c ↔ p) : wantI E v c = b2 p := by
  unfold wantI
  by_cases z : wntP E v c
  · rw [if_pos z, b2_yes (h.mp z)]
  · rw [if_neg z, b2_no (fun y => z (h.mpr y))]
theorem T286 {g : Nat} (H : SC σ k j E w) (hp : pl + 11 ≤ 1188) (hv : cAt σ k pl v) (wv : okW v) (ov : okV E g t v) (hc : c = 109 ∨ c = 112 ∨ c = 114 ∨ c = 99 ∨ c = 116 ∨ c = 119 ∨ c = 105 ∨ c = 104 ∨ c = 110) : MM 286 [mR (some 40), mI (pl : Int), mI (vk v), mI c] σ = some (some (mI (wantI E v c)), σ) := by
  have k1 := sc_k H
  have C : CEO σ E := H.2.2.2.1
  have l8 : pl + 8 < 100000 := by omega
  have g8 := gSt k1 (show pl + 8 < 1188 by omega)
  have l7 : pl + 7 < 100000 := by omega
  have g7 := gSt k1 (show pl + 7 < 1188 by omega)
  have l2 : pl + 2 < 100000 := by omega
  have g2 := gSt k1 (show pl + 2 < 1188 by omega)
  have l1 : pl + 1 < 100000 := by omega
  have g1 := gSt k1 (show pl + 1 < 1188 by omega)
  have ww := wv.2.2.1
  have wo := wv.2.2.2.1
  have lw : lI (iL (vw v)) = vw v := lIi (by omega) (by omega)
  have map : vk v = 4 → (vw v).toNat < 8 ∧ (((vw v).toNat : Nat) : Int) = vw v := fun z => by
    have := ov.2.2.2.1 z
    omega
  rcases hc with rfl | rfl | rfl | rfl | rfl | rfl | rfl | rfl | rfl
  · rw [wI (show wntP E v 109 ↔ vk v = 4 ∧ 0 ≤ E.1 (vw v).toNat ∧ E.1 (vw v).toNat ≤ 1 from Iff.rfl)]
    by_cases k4 : vk v = 4
    · obtain ⟨m8, me⟩ := map k4
      have t := T46 C m8
      rw [me] at t
      by_cases q : 0 ≤ E.1 (vw v).toNat ∧ E.1 (vw v).toNat ≤ 1
      · rw [b2_yes q] at t
        rw [b2_yes (p := vk v = 4 ∧ 0 ≤ E.1 (vw v).toNat ∧ E.1 (vw v).toNat ≤ 1) ⟨k4, q⟩]
        simp only [M286, e286_0, Option.getD_some, Option.bind_some, Option.toList_some, Option.toList_none, List.cons_append, List.nil_append, and_self, and_true, true_and, false_and, and_false, ite_self, not_true_eq_false, not_false_eq_true, reduceIte, Nat.reduceEqDiff, ab_I, ab_L, ab_R, ao_I, ao_L, ao_R, gL_sL, gI_sI, gR_sR, gI_sL, gI_sR, gL_sI, gL_sR, gR_sI, gR_sL, sc_h H, sc_ao H, wp8 l8, g8, Int.toNat_natCast, rd_8 hv, Int.reduceEq, eq_true k4, lw, t, e286_134, oneI]
      · rw [b2_no q] at t
        rw [b2_no (p := vk v = 4 ∧ 0 ≤ E.1 (vw v).toNat ∧ E.1 (vw v).toNat ≤ 1) (fun z => q z.2)]
        simp only [M286, e286_0, Option.getD_some, Option.bind_some, Option.toList_some, Option.toList_none, List.cons_append, List.nil_append, and_self, and_true, true_and, false_and, and_false, ite_self, not_true_eq_false, not_false_eq_true, reduceIte, Nat.reduceEqDiff, ab_I, ab_L, ab_R, ao_I, ao_L, ao_R, gL_sL, gI_sI, gR_sR, gI_sL, gI_sR, gL_sI, gL_sR, gR_sI, gR_sL, sc_h H, sc_ao H, wp8 l8, g8, Int.toNat_natCast, rd_8 hv, Int.reduceEq, eq_true k4, lw, t, e286_134, e286_141]
    · rw [b2_no (p := vk v = 4 ∧ 0 ≤ E.1 (vw v).toNat ∧ E.1 (vw v).toNat ≤ 1) (fun z => k4 z.1)]
      simp only [M286, e286_0, Option.getD_some, Option.bind_some, Option.toList_some, Option.toList_none, List.cons_append, List.nil_append, and_self, and_true, true_and, false_and, and_false, ite_self, not_true_eq_false, not_false_eq_true, reduceIte, Nat.reduceEqDiff, ab_I, ab_L, ab_R, ao_I, ao_L, ao_R, gL_sL, gI_sI, gR_sR, gI_sL, gI_sR, gL_sI, gL_sR, gR_sI, gR_sL, sc_h H, sc_ao H, wp8 l8, g8, Int.toNat_natCast, rd_8 hv, Int.reduceEq, eq_false k4, e286_141]
  · rw [wI (show wntP E v 112 ↔ vk v = 4 ∧ 2 ≤ E.1 (vw v).toNat ∧ E.1 (vw v).toNat ≤ 2 from Iff.rfl)]
    by_cases k4 : vk v = 4
    · obtain ⟨m8, me⟩ := map k4
      have t := T45 (c := 2) C m8
      rw [me] at t
      by_cases q : 0 ≤ E.1 (vw v).toNat ∧ E.1 (vw v).toNat = 2
      · rw [b2_yes q] at t
        rw [b2_yes (p := vk v = 4 ∧ 2 ≤ E.1 (vw v).toNat ∧ E.1 (vw v).toNat ≤ 2) ⟨k4, by omega⟩]
        simp only [M286, e286_0, Option.getD_some, Option.bind_some, Option.toList_some, Option.toList_none, List.cons_append, List.nil_append, and_self, and_true, true_and, false_and, and_false, ite_self, not_true_eq_false, not_false_eq_true, reduceIte, Nat.reduceEqDiff, ab_I, ab_L, ab_R, ao_I, ao_L, ao_R, gL_sL, gI_sI, gR_sR, gI_sL, gI_sR, gL_sI, gL_sR, gR_sI, gR_sL, sc_h H, sc_ao H, wp8 l8, g8, Int.toNat_natCast, rd_8 hv, Int.reduceEq, eq_true k4, lw, t, e286_158, oneI]
      · rw [b2_no q] at t
        rw [b2_no (p := vk v = 4 ∧ 2 ≤ E.1 (vw v).toNat ∧ E.1 (vw v).toNat ≤ 2) (fun z => q (by omega))]
        simp only [M286, e286_0, Option.getD_some, Option.bind_some, Option.toList_some, Option.toList_none, List.cons_append, List.nil_append, and_self, and_true, true_and, false_and, and_false, ite_self, not_true_eq_false, not_false_eq_true, reduceIte, Nat.reduceEqDiff, ab_I, ab_L, ab_R, ao_I, ao_L, ao_R, gL_sL, gI_sI, gR_sR, gI_sL, gI_sR, gL_sI, gL_sR, gR_sI, gR_sL, sc_h H, sc_ao H, wp8 l8, g8, Int.toNat_natCast, rd_8 hv, Int.reduceEq, eq_true k4, lw, t, e286_158, e286_165]
    · rw [b2_no (p := vk v = 4 ∧ 2 ≤ E.1 (vw v).toNat ∧ E.1 (vw v).toNat ≤ 2) (fun z => k4 z.1)]
      simp only [M286, e286_0, Option.getD_some, Option.bind_some, Option.toList_some, Option.toList_none, List.cons_append, List.nil_append, and_self, and_true, true_and, false_and, and_false, ite_self, not_true_eq_false, not_false_eq_true, reduceIte, Nat.reduceEqDiff, ab_I, ab_L, ab_R, ao_I, ao_L, ao_R, gL_sL, gI_sI, gR_sR, gI_sL, gI_sR, gL_sI, gL_sR, gR_sI, gR_sL, sc_h H, sc_ao H, wp8 l8, g8, Int.toNat_natCast, rd_8 hv, Int.reduceEq, eq_false k4, e286_165]
  · rw [wI (show wntP E v 114 ↔ vk v = 4 ∧ 3 ≤ E.1 (vw v).toNat ∧ E.1 (vw v).toNat ≤ 3 from Iff.rfl)]
    by_cases k4 : vk v = 4
    · obtain ⟨m8, me⟩ := map k4
      have t := T45 (c := 3) C m8
      rw [me] at t
      by_cases q : 0 ≤ E.1 (vw v).toNat ∧ E.1 (vw v).toNat = 3
      · rw [b2_yes q] at t
        rw [b2_yes (p := vk v = 4 ∧ 3 ≤ E.1 (vw v).toNat ∧ E.1 (vw v).toNat ≤ 3) ⟨k4, by omega⟩]
        simp only [M286, e286_0, Option.getD_some, Option.bind_some, Option.toList_some, Option.toList_none, List.cons_append, List.nil_append, and_self, and_true, true_and, false_and, and_false, ite_self, not_true_eq_false, not_false_eq_true, reduceIte, Nat.reduceEqDiff, ab_I, ab_L, ab_R, ao_I, ao_L, ao_R, gL_sL, gI_sI, gR_sR, gI_sL, gI_sR, gL_sI, gL_sR, gR_sI, gR_sL, sc_h H, sc_ao H, wp8 l8, g8, Int.toNat_natCast, rd_8 hv, Int.reduceEq, eq_true k4, lw, t, e286_182, oneI]
      · rw [b2_no q] at t
        rw [b2_no (p := vk v = 4 ∧ 3 ≤ E.1 (vw v).toNat ∧ E.1 (vw v).toNat ≤ 3) (fun z => q (by omega))]
        simp only [M286, e286_0, Option.getD_some, Option.bind_some, Option.toList_some, Option.toList_none, List.cons_append, List.nil_append, and_self, and_true, true_and, false_and, and_false, ite_self, not_true_eq_false, not_false_eq_true, reduceIte, Nat.reduceEqDiff, ab_I, ab_L, ab_R, ao_I, ao_L, ao_R, gL_sL, gI_sI, gR_sR, gI_sL, gI_sR, gL_sI, gL_sR, gR_sI, gR_sL, sc_h H, sc_ao H, wp8 l8, g8, Int.toNat_natCast, rd_8 hv, Int.reduceEq, eq_true k4, lw, t, e286_182, e286_189]
    · rw [b2_no (p := vk v = 4 ∧ 3 ≤ E.1 (vw v).toNat ∧ E.1 (vw v).toNat ≤ 3) (fun z => k4 z.1)]
      simp only [M286, e286_0, Option.getD_some, Option.bind_some, Option.toList_some, Option.toList_none, List.cons_append, List.nil_append, and_self, and_true, true_and, false_and, and_false, ite_self, not_true_eq_false, not_false_eq_true, reduceIte, Nat.reduceEqDiff, ab_I, ab_L, ab_R, ao_I, ao_L, ao_R, gL_sL, gI_sI, gR_sR, gI_sL, gI_sR, gL_sI, gL_sR, gR_sI, gR_sL, sc_h H, sc_ao H, wp8 l8, g8, Int.toNat_natCast, rd_8 hv, Int.reduceEq, eq_false k4, e286_189]
  · rw [wI (show wntP E v 99 ↔ vk v = 2 from Iff.rfl)]
    by_cases k2 : vk v = 2
    · rw [b2_yes k2]
      simp only [M286, e286_0, Option.getD_some, Option.bind_some, Option.toList_some, Option.toList_none, List.cons_append, List.nil_append, and_self, and_true, true_and, false_and, and_false, ite_self, not_true_eq_false, not_false_eq_true, reduceIte, Nat.reduceEqDiff, ab_I, ab_L, ab_R, ao_I, ao_L, ao_R, gL_sL, gI_sI, gR_sR, gI_sL, gI_sR, gL_sI, gL_sR, gR_sI, gR_sL, sc_h H, sc_ao H, wp8 l8, g8, Int.toNat_natCast, rd_8 hv, Int.reduceEq, eq_true k2]
    · rw [b2_no k2]
      simp only [M286, e286_0, Option.getD_some, Option.bind_some, Option.toList_some, Option.toList_none, List.cons_append, List.nil_append, and_self, and_true, true_and, false_and, and_false, ite_self, not_true_eq_false, not_false_eq_true, reduceIte, Nat.reduceEqDiff, ab_I, ab_L, ab_R, ao_I, ao_L, ao_R, gL_sL, gI_sI, gR_sR, gI_sL, gI_sR, gL_sI, gL_sR, gR_sI, gR_sL, sc_h H, sc_ao H, wp8 l8, g8, Int.toNat_natCast, rd_8 hv, Int.reduceEq, eq_false k2]
  · rw [wI (show wntP E v 116 ↔ vk v = 1 ∧ (¬ jA (vn v) = 0#64 ∧ ¬ iL 64 < jB (vn v)) from Iff.rfl)]
    have t := T287 (m := 64) H hp hv
    by_cases k1 : vk v = 1
    · by_cases q : ¬ jA (vn v) = 0#64 ∧ ¬ iL 64 < jB (vn v)
      · rw [b2_yes q] at t
        rw [b2_yes (p := vk v = 1 ∧ (¬ jA (vn v) = 0#64 ∧ ¬ iL 64 < jB (vn v))) ⟨k1, q⟩]
        simp only [M286, e286_0, Option.getD_some, Option.bind_some, Option.toList_some, Option.toList_none, List.cons_append, List.nil_append, and_self, and_true, true_and, false_and, and_false, ite_self, not_true_eq_false, not_false_eq_true, reduceIte, Nat.reduceEqDiff, ab_I, ab_L, ab_R, ao_I, ao_L, ao_R, gL_sL, gI_sI, gR_sR, gI_sL, gI_sR, gL_sI, gL_sR, gR_sI, gR_sL, sc_h H, sc_ao H, wp8 l8, g8, Int.toNat_natCast, rd_8 hv, Int.reduceEq, eq_true k1, t, e286_215, oneI]
      · rw [b2_no q] at t
        rw [b2_no (p := vk v = 1 ∧ (¬ jA (vn v) = 0#64 ∧ ¬ iL 64 < jB (vn v))) (fun z => q z.2)]
        simp only [M286, e286_0, Option.getD_some, Option.bind_some, Option.toList_some, Option.toList_none, List.cons_append, List.nil_append, and_self, and_true, true_and, false_and, and_false, ite_self, not_true_eq_false, not_false_eq_true, reduceIte, Nat.reduceEqDiff, ab_I, ab_L, ab_R, ao_I, ao_L, ao_R, gL_sL, gI_sI, gR_sR, gI_sL, gI_sR, gL_sI, gL_sR, gR_sI, gR_sL, sc_h H, sc_ao H, wp8 l8, g8, Int.toNat_natCast, rd_8 hv, Int.reduceEq, eq_true k1, t, e286_215, e286_222]
    · rw [b2_no (p := vk v = 1 ∧ (¬ jA (vn v) = 0#64 ∧ ¬ iL 64 < jB (vn v))) (fun z => k1 z.1)]
      simp only [M286, e286_0, Option.getD_some, Option.bind_some, Option.toList_some, Option.toList_none, List.cons_append, List.nil_append, and_self, and_true, true_and, false_and, and_false, ite_self, not_true_eq_false, not_false_eq_true, reduceIte, Nat.reduceEqDiff, ab_I, ab_L, ab_R, ao_I, ao_L, ao_R, gL_sL, gI_sI, gR_sR, gI_sL, gI_sR, gL_sI, gL_sR, gR_sI, gR_sL, sc_h H, sc_ao H, wp8 l8, g8, Int.toNat_natCast, rd_8 hv, Int.reduceEq, eq_false k1, e286_222]
  · rw [wI (show wntP E v 119 ↔ vk v = 1 ∧ (¬ jA (vn v) = 0#64 ∧ ¬ iL 128 < jB (vn v)) from Iff.rfl)]
    have t := T287 (m := 128) H hp hv
    by_cases k1 : vk v = 1
    · by_cases q : ¬ jA (vn v) = 0#64 ∧ ¬ iL 128 < jB (vn v)
      · rw [b2_yes q] at t
        rw [b2_yes (p := vk v = 1 ∧ (¬ jA (vn v) = 0#64 ∧ ¬ iL 128 < jB (vn v))) ⟨k1, q⟩]
        simp only [M286, e286_0, Option.getD_some, Option.bind_some, Option.toList_some, Option.toList_none, List.cons_append, List.nil_append, and_self, and_true, true_and, false_and, and_false, ite_self, not_true_eq_false, not_false_eq_true, reduceIte, Nat.reduceEqDiff, ab_I, ab_L, ab_R, ao_I, ao_L, ao_R, gL_sL, gI_sI, gR_sR, gI_sL, gI_sR, gL_sI, gL_sR, gR_sI, gR_sL, sc_h H, sc_ao H, wp8 l8, g8, Int.toNat_natCast, rd_8 hv, Int.reduceEq, eq_true k1, t, e286_237, oneI]
      · rw [b2_no q] at t
        rw [b2_no (p := vk v = 1 ∧ (¬ jA (vn v) = 0#64 ∧ ¬ iL 128 < jB (vn v))) (fun z => q z.2)]
        simp only [M286, e286_0, Option.getD_some, Option.bind_some, Option.toList_some, Option.toList_none, List.cons_append, List.nil_append, and_self, and_true, true_and, false_and, and_false, ite_self, not_true_eq_false, not_false_eq_true, reduceIte, Nat.reduceEqDiff, ab_I, ab_L, ab_R, ao_I, ao_L, ao_R, gL_sL, gI_sI, gR_sR, gI_sL, gI_sR, gL_sI, gL_sR, gR_sI, gR_sL, sc_h H, sc_ao H, wp8 l8, g8, Int.toNat_natCast, rd_8 hv, Int.reduceEq, eq_true k1, t, e286_237, e286_244]
    · rw [b2_no (p := vk v = 1 ∧ (¬ jA (vn v) = 0#64 ∧ ¬ iL 128 < jB (vn v))) (fun z => k1 z.1)]
      simp only [M286, e286_0, Option.getD_some, Option.bind_some, Option.toList_some, Option.toList_none, List.cons_append, List.nil_append, and_self, and_true, true_and, false_and, and_false, ite_self, not_true_eq_false, not_false_eq_true, reduceIte, Nat.reduceEqDiff, ab_I, ab_L, ab_R, ao_I, ao_L, ao_R, gL_sL, gI_sI, gR_sR, gI_sL, gI_sR, gL_sI, gL_sR, gR_sI, gR_sL, sc_h H, sc_ao H, wp8 l8, g8, Int.toNat_natCast, rd_8 hv, Int.reduceEq, eq_false k1, e286_244]
  · rw [wI (show wntP E v 105 ↔ vk v = 1 ∧ isC (vn v) ∧ 1 ≤ (jV (vn v)).toInt ∧ (jV (vn v)).toInt ≤ 64 from Iff.rfl)]
    have o1 : BitVec.toInt (BitVec.ofNat 64 1) = 1 := rfl
    have o64 : BitVec.toInt (iL 64) = 64 := rfl
    by_cases k1 : vk v = 1
    · have r1 : gL σ (k + 1 + 0) (pl + 1) = jV (vn v) := by rw [rd_1 hv, if_neg (by omega)]
      by_cases c0 : isC (vn v)
      · have c0' : jM (vn v) = BitVec.ofNat 64 0 := c0
        by_cases d1 : (jV (vn v)).toInt < 1
        · rw [b2_no (p := vk v = 1 ∧ isC (vn v) ∧ 1 ≤ (jV (vn v)).toInt ∧ (jV (vn v)).toInt ≤ 64) (fun z => by have := z.2.2.1; omega)]
          simp only [M286, e286_0, Option.getD_some, Option.bind_some, Option.toList_some, Option.toList_none, List.cons_append, List.nil_append, and_self, and_true, true_and, false_and, and_false, ite_self, not_true_eq_false, not_false_eq_true, reduceIte, Nat.reduceEqDiff, ab_I, ab_L, ab_R, ao_I, ao_L, ao_R, gL_sL, gI_sI, gR_sR, gI_sL, gI_sR, gL_sI, gL_sR, gR_sI, gR_sL, sc_h H, sc_ao H, wp8 l8, g8, Int.toNat_natCast, rd_8 hv, Int.reduceEq, eq_true k1, wp2 l2, g2, rd_2 hv, eq_true c0', wp1 l1, g1, r1, o1, eq_true d1, e286_290]
        · by_cases d2 : 64 < (jV (vn v)).toInt
          · rw [b2_no (p := vk v = 1 ∧ isC (vn v) ∧ 1 ≤ (jV (vn v)).toInt ∧ (jV (vn v)).toInt ≤ 64) (fun z => by have := z.2.2.2; omega)]
            simp only [M286, e286_0, Option.getD_some, Option.bind_some, Option.toList_some, Option.toList_none, List.cons_append, List.nil_append, and_self, and_true, true_and, false_and, and_false, ite_self, not_true_eq_false, not_false_eq_true, reduceIte, Nat.reduceEqDiff, ab_I, ab_L, ab_R, ao_I, ao_L, ao_R, gL_sL, gI_sI, gR_sR, gI_sL, gI_sR, gL_sI, gL_sR, gR_sI, gR_sL, sc_h H, sc_ao H, wp8 l8, g8, Int.toNat_natCast, rd_8 hv, Int.reduceEq, eq_true k1, wp2 l2, g2, rd_2 hv, eq_true c0', wp1 l1, g1, r1, o1, eq_false d1, o64, eq_true d2, e286_290]
          · rw [b2_yes (p := vk v = 1 ∧ isC (vn v) ∧ 1 ≤ (jV (vn v)).toInt ∧ (jV (vn v)).toInt ≤ 64) ⟨k1, c0, by omega, by omega⟩]
            simp only [M286, e286_0, Option.getD_some, Option.bind_some, Option.toList_some, Option.toList_none, List.cons_append, List.nil_append, and_self, and_true, true_and, false_and, and_false, ite_self, not_true_eq_false, not_false_eq_true, reduceIte, Nat.reduceEqDiff, ab_I, ab_L, ab_R, ao_I, ao_L, ao_R, gL_sL, gI_sI, gR_sR, gI_sL, gI_sR, gL_sI, gL_sR, gR_sI, gR_sL, sc_h H, sc_ao H, wp8 l8, g8, Int.toNat_natCast, rd_8 hv, Int.reduceEq, eq_true k1, wp2 l2, g2, rd_2 hv, eq_true c0', wp1 l1, g1, r1, o1, eq_false d1, o64, eq_false d2]
      · have c0' : ¬ jM (vn v) = BitVec.ofNat 64 0 := c0
        rw [b2_no (p := vk v = 1 ∧ isC (vn v) ∧ 1 ≤ (jV (vn v)).toInt ∧ (jV (vn v)).toInt ≤ 64) (fun z => c0 z.2.1)]
        simp only [M286, e286_0, Option.getD_some, Option.bind_some, Option.toList_some, Option.toList_none, List.cons_append, List.nil_append, and_self, and_true, true_and, false_and, and_false, ite_self, not_true_eq_false, not_false_eq_true, reduceIte, Nat.reduceEqDiff, ab_I, ab_L, ab_R, ao_I, ao_L, ao_R, gL_sL, gI_sI, gR_sR, gI_sL, gI_sR, gL_sI, gL_sR, gR_sI, gR_sL, sc_h H, sc_ao H, wp8 l8, g8, Int.toNat_natCast, rd_8 hv, Int.reduceEq, eq_true k1, wp2 l2, g2, rd_2 hv, eq_false c0', e286_290]
    · rw [b2_no (p := vk v = 1 ∧ isC (vn v) ∧ 1 ≤ (jV (vn v)).toInt ∧ (jV (vn v)).toInt ≤ 64) (fun z => k1 z.1)]
      simp only [M286, e286_0, Option.getD_some, Option.bind_some, Option.toList_some, Option.toList_none, List.cons_append, List.nil_append, and_self, and_true, true_and, false_and, and_false, ite_self, not_true_eq_false, not_false_eq_true, reduceIte, Nat.reduceEqDiff, ab_I, ab_L, ab_R, ao_I, ao_L, ao_R, gL_sL, gI_sI, gR_sR, gI_sL, gI_sR, gL_sI, gL_sR, gR_sI, gR_sL, sc_h H, sc_ao H, wp8 l8, g8, Int.toNat_natCast, rd_8 hv, Int.reduceEq, eq_false k1, e286_290]
  · rw [wI (show wntP E v 104 ↔ vk v = 9 ∧ vo v = 0 ∧ isC (vn v) ∧ jV (vn v) = 0#64 from Iff.rfl)]
    have z7 : (iL (vo v) = BitVec.ofNat 64 0) = (vo v = 0) := iL_z (by omega)
    by_cases k9 : vk v = 9
    · have r1 : gL σ (k + 1 + 0) (pl + 1) = jV (vn v) := by rw [rd_1 hv, if_neg (by omega)]
      by_cases o0 : vo v = 0
      · by_cases c0 : isC (vn v)
        · have c0' : jM (vn v) = BitVec.ofNat 64 0 := c0
          by_cases d0 : jV (vn v) = 0#64
          · have d0' : jV (vn v) = BitVec.ofNat 64 0 := d0
            rw [b2_yes (p := vk v = 9 ∧ vo v = 0 ∧ isC (vn v) ∧ jV (vn v) = 0#64) ⟨k9, o0, c0, d0⟩]
            simp only [M286, e286_0, Option.getD_some, Option.bind_some, Option.toList_some, Option.toList_none, List.cons_append, List.nil_append, and_self, and_true, true_and, false_and, and_false, ite_self, not_true_eq_false, not_false_eq_true, reduceIte, Nat.reduceEqDiff, ab_I, ab_L, ab_R, ao_I, ao_L, ao_R, gL_sL, gI_sI, gR_sR, gI_sL, gI_sR, gL_sI, gL_sR, gR_sI, gR_sL, sc_h H, sc_ao H, wp8 l8, g8, Int.toNat_natCast, rd_8 hv, Int.reduceEq, eq_true k9, wp7 l7, g7, rd_7 hv, z7, eq_true o0, wp2 l2, g2, rd_2 hv, eq_true c0', wp1 l1, g1, r1, eq_true d0']
          · have d0' : ¬ jV (vn v) = BitVec.ofNat 64 0 := d0
            rw [b2_no (p := vk v = 9 ∧ vo v = 0 ∧ isC (vn v) ∧ jV (vn v) = 0#64) (fun z => d0 z.2.2.2)]
            simp only [M286, e286_0, Option.getD_some, Option.bind_some, Option.toList_some, Option.toList_none, List.cons_append, List.nil_append, and_self, and_true, true_and, false_and, and_false, ite_self, not_true_eq_false, not_false_eq_true, reduceIte, Nat.reduceEqDiff, ab_I, ab_L, ab_R, ao_I, ao_L, ao_R, gL_sL, gI_sI, gR_sR, gI_sL, gI_sR, gL_sI, gL_sR, gR_sI, gR_sL, sc_h H, sc_ao H, wp8 l8, g8, Int.toNat_natCast, rd_8 hv, Int.reduceEq, eq_true k9, wp7 l7, g7, rd_7 hv, z7, eq_true o0, wp2 l2, g2, rd_2 hv, eq_true c0', wp1 l1, g1, r1, eq_false d0', e286_336]
        · have c0' : ¬ jM (vn v) = BitVec.ofNat 64 0 := c0
          rw [b2_no (p := vk v = 9 ∧ vo v = 0 ∧ isC (vn v) ∧ jV (vn v) = 0#64) (fun z => c0 z.2.2.1)]
          simp only [M286, e286_0, Option.getD_some, Option.bind_some, Option.toList_some, Option.toList_none, List.cons_append, List.nil_append, and_self, and_true, true_and, false_and, and_false, ite_self, not_true_eq_false, not_false_eq_true, reduceIte, Nat.reduceEqDiff, ab_I, ab_L, ab_R, ao_I, ao_L, ao_R, gL_sL, gI_sI, gR_sR, gI_sL, gI_sR, gL_sI, gL_sR, gR_sI, gR_sL, sc_h H, sc_ao H, wp8 l8, g8, Int.toNat_natCast, rd_8 hv, Int.reduceEq, eq_true k9, wp7 l7, g7, rd_7 hv, z7, eq_true o0, wp2 l2, g2, rd_2 hv, eq_false c0', e286_336]
      · rw [b2_no (p := vk v = 9 ∧ vo v = 0 ∧ isC (vn v) ∧ jV (vn v) = 0#64) (fun z => o0 z.2.1)]
        simp only [M286, e286_0, Option.getD_some, Option.bind_some, Option.toList_some, Option.toList_none, List.cons_append, List.nil_append, and_self, and_true, true_and, false_and, and_false, ite_self, not_true_eq_false, not_false_eq_true, reduceIte, Nat.reduceEqDiff, ab_I, ab_L, ab_R, ao_I, ao_L, ao_R, gL_sL, gI_sI, gR_sR, gI_sL, gI_sR, gL_sI, gL_sR, gR_sI, gR_sL, sc_h H, sc_ao H, wp8 l8, g8, Int.toNat_natCast, rd_8 hv, Int.reduceEq, eq_true k9, wp7 l7, g7, rd_7 hv, z7, eq_false o0, e286_336]
    · rw [b2_no (p := vk v = 9 ∧ vo v = 0 ∧ isC (vn v) ∧ jV (vn v) = 0#64) (fun z => k9 z.1)]
      simp only [M286, e286_0, Option.getD_some, Option.bind_some, Option.toList_some, Option.toList_none, List.cons_append, List.nil_append, and_self, and_true, true_and, false_and, and_false, ite_self, not_true_eq_false, not_false_eq_true, reduceIte, Nat.reduceEqDiff, ab_I, ab_L, ab_R, ao_I, ao_L, ao_R, gL_sL, gI_sI, gR_sR, gI_sL, gI_sR, gL_sI, gL_sR, gR_sI, gR_sL, sc_h H, sc_ao H, wp8 l8, g8, Int.toNat_natCast, rd_8 hv, Int.reduceEq, eq_false k9, e286_336]
  · rw [wI (show wntP E v 110 ↔ vk v = 1 from Iff.rfl)]
    by_cases k1 : vk v = 1
    · rw [b2_yes k1]
      simp only [M286, e286_0, Option.getD_some, Option.bind_some, Option.toList_some, Option.toList_none, List.cons_append, List.nil_append, and_self, and_true, true_and, false_and, and_false, ite_self, not_true_eq_false, not_false_eq_true, reduceIte, Nat.reduceEqDiff, ab_I, ab_L, ab_R, ao_I, ao_L, ao_R, gL_sL, gI_sI, gR_sR, gI_sL, gI_sR, gL_sI, gL_sR, gR_sI, gR_sL, sc_h H, sc_ao H, wp8 l8, g8, Int.toNat_natCast, rd_8 hv, Int.reduceEq, eq_true k1]
    · rw [b2_no k1]
      simp only [M286, e286_0, Option.getD_some, Option.bind_some, Option.toList_some, Option.toList_none, List.cons_append, List.nil_append, and_self, and_true, true_and, false_and, and_false, ite_self, not_true_eq_false, not_false_eq_true, reduceIte, Nat.reduceEqDiff, ab_I, ab_L, ab_R, ao_I, ao_L, ao_R, gL_sL, gI_sI, gR_sR, gI_sL, gI_sR, gL_sI, gL_sR, gR_sI, gR_sL, sc_h H, sc_ao H, wp8 l8, g8, Int.toNat_natCast, rd_8 hv, Int.reduceEq, eq_false k1]
/-- the bytes of an argument -/
def wntY (E : EV) (S : ST) (x : VL) (n : Int) : Int := if ¬ mvs x then 8 else if ¬ room E x 0 n then 5 else if vk x = 3 ∧ areS S (vw x).toNat (vo x + 128).toNat n.toNat = false then 6 else 0
theorem wntB_n {x : VL} {n : Int} (h0 : ¬ vk x = 0) (hm : ¬ isMb x) : wntB E S x n = wntY E S x n := by
  unfold wntB wntY wntA
  rw [if_neg h0, if_neg hm]
  by_cases m : mvs x
  · rw [if_pos (decide_eq_true m), if_neg (not_not_intro rfl), if_neg (not_not_intro m)]
  · rw [if_neg (fun z => m (of_decide_eq_true z)), if_pos (by decide), if_pos m]
theorem T288 {r : Nat} {n : Int} (H : SC σ k j E w) (hS : CSt σ k S) (P : PX S E t) (hr : r ≤ 10) (hn : 0 ≤ n ∧ n ≤ 128) : MM 288 [mR (some 40), mI ((pR S r : Nat) : Int), mL (iL n)] σ = some (some (mI (wntY E S (rgV S r) n)), σ) := by
  have F := PX_F P
  have l := pR_lt F hr
  have hv := cAt_rg hS F.1 hr
  have wv := okW_r P hr
  have ov := rV_ok P.1 hr
  have t14 := T214r H hS P hr
  have l8 : pR S r + 8 < 100000 := by omega
  have g8 := gSt (sc_k H) (show pR S r + 8 < 1188 by omega)
  have l7 : pR S r + 7 < 100000 := by omega
  have g7 := gSt (sc_k H) (show pR S r + 7 < 1188 by omega)
  have t45 : MM 245 [mI (vk (rgV S r))] σ = some (some (mI (b2 (mvs (rgV S r)))), σ) := T245
  unfold wntY
  by_cases m : mvs (rgV S r)
  · rw [b2_yes m] at t45
    rw [if_neg (not_not_intro m)]
    have t53 := T253 (b := 0) (n := n) H l hv wv ov m (by omega) (by omega)
    have t53 : MM 253 [mR (some 40), mI ((pR S r : Nat) : Int), mL (BitVec.ofNat 64 0), mL (iL n)] σ = some (some (mI (b2 (room E (rgV S r) 0 n))), σ) := t53
    by_cases rm : room E (rgV S r) 0 n
    · rw [b2_yes rm] at t53
      rw [if_neg (not_not_intro rm)]
      by_cases k3 : vk (rgV S r) = 3
      · have rm3 : -128 ≤ vo (rgV S r) + 0 ∧ vo (rgV S r) + 0 ≤ -n := by
          have rm' := rm
          unfold room at rm'
          rw [if_pos k3] at rm'
          exact rm'
        have fr := okV_f P.1 hr k3
        obtain ⟨f, hf⟩ : ∃ f : Nat, vw (rgV S r) = (f : Int) := ⟨(vw (rgV S r)).toNat, by omega⟩
        obtain ⟨b, hb⟩ : ∃ b : Nat, vo (rgV S r) + 128 = (b : Int) := ⟨(vo (rgV S r) + 128).toNat, by omega⟩
        obtain ⟨m, hm⟩ : ∃ m : Nat, n = (m : Int) := ⟨n.toNat, by omega⟩
        have t26 := T226 (f := f) (b := b) (n := m) (a := vo (rgV S r)) (sc_k H) hS P.2.1 (fun i hi => (okW_S P.1 P.2.1 P.2.2.1 P.2.2.2 hi).1) F.2 (by omega) hb (by omega)
        have rf : gL σ (k + 1 + 0) (pR S r + 8) = iL (f : Int) := by rw [rd_8 hv, hf]
        rw [hf, hb, hm, Int.toNat_natCast, Int.toNat_natCast, Int.toNat_natCast]
        rw [hm] at t53
        by_cases ar : areS S f b m = true
        · rw [b2_yes ar] at t26
          rw [if_neg (fun z => by rw [ar] at z; exact Bool.noConfusion z.2)]
          simp only [M288, e288_0, e288_8, e288_15, e288_28, e288_71, Option.getD_some, Option.bind_some, Option.toList_some, Option.toList_none, List.cons_append, List.nil_append, and_self, and_true, true_and, false_and, and_false, ite_self, not_true_eq_false, not_false_eq_true, reduceIte, Nat.reduceEqDiff, ab_I, ab_L, ab_R, ao_I, ao_L, ao_R, gL_sL, gI_sI, gR_sR, gI_sL, gI_sR, gL_sI, gL_sR, gR_sI, gR_sL, sc_h H, sc_ao H, t14, t45, t53, oneI, eq_true k3, wp8 l8, g8, wp7 l7, g7, Int.toNat_natCast, rf, rd_7 hv, t26]
        · rw [b2_no ar] at t26
          rw [if_pos ⟨k3, by simpa using ar⟩]
          simp only [M288, e288_0, e288_8, e288_15, e288_28, e288_71, Option.getD_some, Option.bind_some, Option.toList_some, Option.toList_none, List.cons_append, List.nil_append, and_self, and_true, true_and, false_and, and_false, ite_self, not_true_eq_false, not_false_eq_true, reduceIte, Nat.reduceEqDiff, ab_I, ab_L, ab_R, ao_I, ao_L, ao_R, gL_sL, gI_sI, gR_sR, gI_sL, gI_sR, gL_sI, gL_sR, gR_sI, gR_sL, sc_h H, sc_ao H, t14, t45, t53, oneI, eq_true k3, wp8 l8, g8, wp7 l7, g7, Int.toNat_natCast, rf, rd_7 hv, t26]
      · rw [if_neg (fun z => k3 z.1)]
        simp only [M288, e288_0, e288_8, e288_15, e288_28, Option.getD_some, Option.bind_some, Option.toList_some, Option.toList_none, List.cons_append, List.nil_append, and_self, and_true, true_and, false_and, and_false, ite_self, not_true_eq_false, not_false_eq_true, reduceIte, Nat.reduceEqDiff, ab_I, ab_L, ab_R, ao_I, ao_L, ao_R, gL_sL, gI_sI, gR_sR, gI_sL, gI_sR, gL_sI, gL_sR, gR_sI, gR_sL, sc_h H, sc_ao H, t14, t45, t53, oneI, eq_false k3]
    · rw [b2_no rm] at t53
      rw [if_pos rm]
      simp only [M288, e288_0, e288_8, e288_15, e288_28, Option.getD_some, Option.bind_some, Option.toList_some, Option.toList_none, List.cons_append, List.nil_append, and_self, and_true, true_and, false_and, and_false, ite_self, not_true_eq_false, not_false_eq_true, reduceIte, Nat.reduceEqDiff, ab_I, ab_L, ab_R, ao_I, ao_L, ao_R, gL_sL, gI_sI, gR_sR, gI_sL, gI_sR, gL_sI, gL_sR, gR_sI, gR_sL, sc_h H, sc_ao H, t14, t45, t53, oneI]
  · rw [b2_no m] at t45
    rw [if_pos m]
    simp only [M288, e288_0, e288_8, e288_15, Option.getD_some, Option.bind_some, Option.toList_some, Option.toList_none, List.cons_append, List.nil_append, and_self, and_true, true_and, false_and, and_false, ite_self, not_true_eq_false, not_false_eq_true, reduceIte, Nat.reduceEqDiff, ab_I, ab_L, ab_R, ao_I, ao_L, ao_R, gL_sL, gI_sI, gR_sR, gI_sL, gI_sR, gL_sI, gL_sR, gR_sI, gR_sL, sc_h H, sc_ao H, t14, t45]
/-- an argument that must be something -/
theorem T284n {r : Nat} (H : SC σ k j E w) (hS : CSt σ k S) (P : PX S E t) (hr : r ≤ 10) (hc : c = 109 ∨ c = 112 ∨ c = 114 ∨ c = 99 ∨ c = 116 ∨ c = 119 ∨ c = 105 ∨ c = 104 ∨ c = 110) {b : Bool} (hb : (b = true) ↔ wntP E (rgV S r) c) : MM 284 [mR (some 40), mI ((pR S r : Nat) : Int), mI c] σ = some (some (mI (wntA (rgV S r) b)), σ) := by
  have F := PX_F P
  have t86 := T286 H (pR_lt F hr) (cAt_rg hS F.1 hr) (okW_r P hr) (rV_ok P.1 hr) hc
  have t14 := T214r H hS P hr
  have t44 : MM 244 [mI (vk (rgV S r))] σ = some (some (mI (b2 (isMb (rgV S r)))), σ) := T244
  unfold wntA
  by_cases k0 : vk (rgV S r) = 0
  · rw [if_pos k0]
    simp only [M284, e284_0, e284_8, Option.getD_some, Option.bind_some, Option.toList_some, Option.toList_none, List.cons_append, List.nil_append, and_self, and_true, true_and, false_and, and_false, ite_self, not_true_eq_false, not_false_eq_true, reduceIte, Nat.reduceEqDiff, ab_I, ab_L, ab_R, ao_I, ao_L, ao_R, gL_sL, gI_sI, gR_sR, gI_sL, gI_sR, gL_sI, gL_sR, gR_sI, gR_sL, sc_h H, sc_ao H, t14, eq_true k0]
  · rw [if_neg k0]
    by_cases mb : isMb (rgV S r)
    · rw [if_pos mb]
      rw [b2_yes mb] at t44
      simp only [M284, e284_0, e284_8, e284_19, Option.getD_some, Option.bind_some, Option.toList_some, Option.toList_none, List.cons_append, List.nil_append, and_self, and_true, true_and, false_and, and_false, ite_self, not_true_eq_false, not_false_eq_true, reduceIte, Nat.reduceEqDiff, ab_I, ab_L, ab_R, ao_I, ao_L, ao_R, gL_sL, gI_sI, gR_sR, gI_sL, gI_sR, gL_sI, gL_sR, gR_sI, gR_sL, sc_h H, sc_ao H, t14, eq_false k0, t44, oneI]
    · rw [if_neg mb]
      rw [b2_no mb] at t44
      have c1 : ¬ c = 98 := by omega
      have c2 : ¬ c = 107 := by omega
      have c3 : ¬ c = 115 := by omega
      have c4 : ¬ c = 118 := by omega
      by_cases p : wntP E (rgV S r) c
      · rw [show wantI E (rgV S r) c = 1 from if_pos p] at t86
        rw [if_pos (hb.2 p)]
        simp only [M284, e284_0, e284_8, e284_19, e284_178, Option.getD_some, Option.bind_some, Option.toList_some, Option.toList_none, List.cons_append, List.nil_append, and_self, and_true, true_and, false_and, and_false, ite_self, not_true_eq_false, not_false_eq_true, reduceIte, Nat.reduceEqDiff, ab_I, ab_L, ab_R, ao_I, ao_L, ao_R, gL_sL, gI_sI, gR_sR, gI_sL, gI_sR, gL_sI, gL_sR, gR_sI, gR_sL, sc_h H, sc_ao H, t14, eq_false k0, t44, eq_false c1, eq_false c2, eq_false c3, eq_false c4, t86, oneI]
      · rw [show wantI E (rgV S r) c = 0 from if_neg p] at t86
        rw [if_neg (fun z => p (hb.1 z))]
        simp only [M284, e284_0, e284_8, e284_19, e284_178, Option.getD_some, Option.bind_some, Option.toList_some, Option.toList_none, List.cons_append, List.nil_append, and_self, and_true, true_and, false_and, and_false, ite_self, not_true_eq_false, not_false_eq_true, reduceIte, Nat.reduceEqDiff, ab_I, ab_L, ab_R, ao_I, ao_L, ao_R, gL_sL, gI_sI, gR_sR, gI_sL, gI_sR, gL_sI, gL_sR, gR_sI, gR_sL, sc_h H, sc_ao H, t14, eq_false k0, t44, eq_false c1, eq_false c2, eq_false c3, eq_false c4, t86]
/-- an argument of so many bytes: a key, a value, as many as register 2 says -/
theorem T284b {r : Nat} (H : SC σ k j E w) (hS : CSt σ k S) (P : PX S E t) (hr : r ≤ 10) {n : Int} (hn : 0 ≤ n ∧ n ≤ 128)
    (h : (c = 107 ∧ (0 ≤ vw (rgV S 1) ∧ vw (rgV S 1) ≤ 7) ∧ n = E.2.1 (vw (rgV S 1)).toNat) ∨ (c = 118 ∧ (0 ≤ vw (rgV S 1) ∧ vw (rgV S 1) ≤ 7) ∧ n = E.2.2 (vw (rgV S 1)).toNat) ∨ (c = 98 ∧ iL n = jB (vn (rgV S 2)))) : MM 284 [mR (some 40), mI ((pR S r : Nat) : Int), mI c] σ = some (some (mI (wntB E S (rgV S r) n)), σ) := by
  have F := PX_F P
  have C : CEO σ E := H.2.2.2.1
  have t14 := T214r H hS P hr
  have t44 : MM 244 [mI (vk (rgV S r))] σ = some (some (mI (b2 (isMb (rgV S r)))), σ) := T244
  have t88 := T288 H hS P hr hn
  by_cases k0 : vk (rgV S r) = 0
  · have e : wntB E S (rgV S r) n = 3 := by unfold wntB wntA; rw [if_pos k0, if_pos (by decide)]
    rw [e]
    simp only [M284, e284_0, e284_8, Option.getD_some, Option.bind_some, Option.toList_some, Option.toList_none, List.cons_append, List.nil_append, and_self, and_true, true_and, false_and, and_false, ite_self, not_true_eq_false, not_false_eq_true, reduceIte, Nat.reduceEqDiff, ab_I, ab_L, ab_R, ao_I, ao_L, ao_R, gL_sL, gI_sI, gR_sR, gI_sL, gI_sR, gL_sI, gL_sR, gR_sI, gR_sL, sc_h H, sc_ao H, t14, eq_true k0]
  · by_cases mb : isMb (rgV S r)
    · have e : wntB E S (rgV S r) n = 14 := by unfold wntB wntA; rw [if_neg k0, if_pos mb, if_pos (by decide)]
      rw [e]
      rw [b2_yes mb] at t44
      simp only [M284, e284_0, e284_8, e284_19, Option.getD_some, Option.bind_some, Option.toList_some, Option.toList_none, List.cons_append, List.nil_append, and_self, and_true, true_and, false_and, and_false, ite_self, not_true_eq_false, not_false_eq_true, reduceIte, Nat.reduceEqDiff, ab_I, ab_L, ab_R, ao_I, ao_L, ao_R, gL_sL, gI_sI, gR_sR, gI_sL, gI_sR, gL_sI, gL_sR, gR_sI, gR_sL, sc_h H, sc_ao H, t14, eq_false k0, t44, oneI]
    · rw [wntB_n k0 mb]
      rw [b2_no mb] at t44
      have t85 := T285 H hS P
      rcases h with ⟨rfl, h1, e⟩ | ⟨rfl, h1, e⟩ | ⟨rfl, e⟩
      · have m8 : vw (rgV S 1) % 8 = vw (rgV S 1) := by omega
        have i0 := h1.1
        have i8 : vw (rgV S 1) < 8 := by omega
        have g := (C (vw (rgV S 1)).toNat (by omega)).1
        rw [← e] at g
        rw [m8] at t85
        simp only [M284, e284_0, e284_8, e284_19, e284_81, e284_86, Option.getD_some, Option.bind_some, Option.toList_some, Option.toList_none, List.cons_append, List.nil_append, and_self, and_true, true_and, false_and, and_false, ite_self, not_true_eq_false, not_false_eq_true, reduceIte, Nat.reduceEqDiff, ab_I, ab_L, ab_R, ao_I, ao_L, ao_R, gL_sL, gI_sI, gR_sR, gI_sL, gI_sR, gL_sI, gL_sR, gR_sI, gR_sL, sc_h H, sc_ao H, t14, eq_false k0, t44, Int.reduceEq, t85, g_31, i0, i8, g, t88]
      · have m8 : vw (rgV S 1) % 8 = vw (rgV S 1) := by omega
        have i0 := h1.1
        have i8 : vw (rgV S 1) < 8 := by omega
        have g := (C (vw (rgV S 1)).toNat (by omega)).2.1
        rw [← e] at g
        rw [m8] at t85
        simp only [M284, e284_0, e284_8, e284_19, e284_100, e284_105, Option.getD_some, Option.bind_some, Option.toList_some, Option.toList_none, List.cons_append, List.nil_append, and_self, and_true, true_and, false_and, and_false, ite_self, not_true_eq_false, not_false_eq_true, reduceIte, Nat.reduceEqDiff, ab_I, ab_L, ab_R, ao_I, ao_L, ao_R, gL_sL, gI_sI, gR_sR, gI_sL, gI_sR, gL_sI, gL_sR, gR_sI, gR_sL, sc_h H, sc_ao H, t14, eq_false k0, t44, Int.reduceEq, t85, g_32, i0, i8, g, t88]
      · have r2 : 2 ≤ 10 := by decide
        have l := pR_lt F r2
        have hv := cAt_rg hS F.1 r2
        have t12 : MM 212 [mR (some k), mI 2] σ = some (some (mI ((pR S 2 : Nat) : Int)), σ) := T212r H hS P r2
        have l4 : pR S 2 + 4 < 100000 := by omega
        have g4 := gSt (sc_k H) (show pR S 2 + 4 < 1188 by omega)
        have r4 : gL σ (k + 1 + 0) (pR S 2 + 4) = iL n := by rw [rd_4 hv, e]
        simp only [M284, e284_0, e284_8, e284_19, e284_123, e284_129, Option.getD_some, Option.bind_some, Option.toList_some, Option.toList_none, List.cons_append, List.nil_append, and_self, and_true, true_and, false_and, and_false, ite_self, not_true_eq_false, not_false_eq_true, reduceIte, Nat.reduceEqDiff, ab_I, ab_L, ab_R, ao_I, ao_L, ao_R, gL_sL, gI_sI, gR_sR, gI_sL, gI_sR, gL_sI, gL_sR, gR_sI, gR_sL, sc_h H, sc_ao H, t14, eq_false k0, t44, Int.reduceEq, t12, wp4 l4, g4, Int.toNat_natCast, r4, t88]
/-- the stack that random bytes come to -/
theorem T284s {r : Nat} (H : SC σ k j E w) (hS : CSt σ k S) (P : PX S E t) (hr : r ≤ 10) {n : Int} (hn : 0 ≤ n ∧ n ≤ 128) (e : iL n = jB (vn (rgV S 4))) : MM 284 [mR (some 40), mI ((pR S r : Nat) : Int), mI 115] σ = some (some (mI (fst (wntK (rgV S r) 3) (if room E (rgV S r) 0 n then 0 else 5))), σ) := by
  have F := PX_F P
  have t14 := T214r H hS P hr
  have t44 : MM 244 [mI (vk (rgV S r))] σ = some (some (mI (b2 (isMb (rgV S r)))), σ) := T244
  unfold wntK wntA
  by_cases k0 : vk (rgV S r) = 0
  · rw [if_pos k0]
    show _ = some (some (mI 3), σ)
    simp only [M284, e284_0, e284_8, Option.getD_some, Option.bind_some, Option.toList_some, Option.toList_none, List.cons_append, List.nil_append, and_self, and_true, true_and, false_and, and_false, ite_self, not_true_eq_false, not_false_eq_true, reduceIte, Nat.reduceEqDiff, ab_I, ab_L, ab_R, ao_I, ao_L, ao_R, gL_sL, gI_sI, gR_sR, gI_sL, gI_sR, gL_sI, gL_sR, gR_sI, gR_sL, sc_h H, sc_ao H, t14, eq_true k0]
  · rw [if_neg k0]
    by_cases mb : isMb (rgV S r)
    · rw [if_pos mb]
      rw [b2_yes mb] at t44
      show _ = some (some (mI 14), σ)
      simp only [M284, e284_0, e284_8, e284_19, Option.getD_some, Option.bind_some, Option.toList_some, Option.toList_none, List.cons_append, List.nil_append, and_self, and_true, true_and, false_and, and_false, ite_self, not_true_eq_false, not_false_eq_true, reduceIte, Nat.reduceEqDiff, ab_I, ab_L, ab_R, ao_I, ao_L, ao_R, gL_sL, gI_sI, gR_sR, gI_sL, gI_sR, gL_sI, gL_sR, gR_sI, gR_sL, sc_h H, sc_ao H, t14, eq_false k0, t44, oneI]
    · rw [if_neg mb]
      rw [b2_no mb] at t44
      by_cases k3 : vk (rgV S r) = 3
      · rw [if_pos (decide_eq_true k3)]
        have r4 : 4 ≤ 10 := by decide
        have l := pR_lt F r4
        have hv := cAt_rg hS F.1 r4
        have t12 : MM 212 [mR (some k), mI 4] σ = some (some (mI ((pR S 4 : Nat) : Int)), σ) := T212r H hS P r4
        have l4 : pR S 4 + 4 < 100000 := by omega
        have g4 := gSt (sc_k H) (show pR S 4 + 4 < 1188 by omega)
        have r4' : gL σ (k + 1 + 0) (pR S 4 + 4) = iL n := by rw [rd_4 hv, e]
        have t53 := T253 (b := 0) (n := n) H (pR_lt F hr) (cAt_rg hS F.1 hr) (okW_r P hr) (rV_ok P.1 hr) (Or.inl k3) (by omega) (by omega)
        have t53 : MM 253 [mR (some 40), mI ((pR S r : Nat) : Int), mL (BitVec.ofNat 64 0), mL (iL n)] σ = some (some (mI (b2 (room E (rgV S r) 0 n))), σ) := t53
        by_cases rm : room E (rgV S r) 0 n
        · rw [b2_yes rm] at t53
          rw [if_pos rm]
          show _ = some (some (mI 0), σ)
          simp only [M284, e284_0, e284_8, e284_19, e284_156, e284_162, Option.getD_some, Option.bind_some, Option.toList_some, Option.toList_none, List.cons_append, List.nil_append, and_self, and_true, true_and, false_and, and_false, ite_self, not_true_eq_false, not_false_eq_true, reduceIte, Nat.reduceEqDiff, ab_I, ab_L, ab_R, ao_I, ao_L, ao_R, gL_sL, gI_sI, gR_sR, gI_sL, gI_sR, gL_sI, gL_sR, gR_sI, gR_sL, sc_h H, sc_ao H, t14, eq_false k0, t44, Int.reduceEq, eq_true k3, t12, wp4 l4, g4, Int.toNat_natCast, r4', t53, oneI]
        · rw [b2_no rm] at t53
          rw [if_neg rm]
          show _ = some (some (mI 5), σ)
          simp only [M284, e284_0, e284_8, e284_19, e284_156, e284_162, Option.getD_some, Option.bind_some, Option.toList_some, Option.toList_none, List.cons_append, List.nil_append, and_self, and_true, true_and, false_and, and_false, ite_self, not_true_eq_false, not_false_eq_true, reduceIte, Nat.reduceEqDiff, ab_I, ab_L, ab_R, ao_I, ao_L, ao_R, gL_sL, gI_sI, gR_sR, gI_sL, gI_sR, gL_sI, gL_sR, gR_sI, gR_sL, sc_h H, sc_ao H, t14, eq_false k0, t44, Int.reduceEq, eq_true k3, t12, wp4 l4, g4, Int.toNat_natCast, r4', t53]
      · rw [if_neg (fun z => k3 (of_decide_eq_true z))]
        show _ = some (some (mI 8), σ)
        simp only [M284, e284_0, e284_8, e284_19, Option.getD_some, Option.bind_some, Option.toList_some, Option.toList_none, List.cons_append, List.nil_append, and_self, and_true, true_and, false_and, and_false, ite_self, not_true_eq_false, not_false_eq_true, reduceIte, Nat.reduceEqDiff, ab_I, ab_L, ab_R, ao_I, ao_L, ao_R, gL_sL, gI_sI, gR_sR, gI_sL, gI_sR, gL_sI, gL_sR, gR_sI, gR_sL, sc_h H, sc_ao H, t14, eq_false k0, t44, Int.reduceEq, eq_false k3]
end CHL
-- FILE 96.ctxt
/-! ===== texts: their length, a char ===== -/
section CTXT
variable {σ : MS} {j i : Nat}
theorem kd_tx (h : j < stN) : kd σ (strK + j) = (50, 0) := by
  have e : stN = 117 := rfl
  have e1 : strK = 2000000 := rfl
  have e2 : fxN = 153 := rfl
  have e3 : scrK = 1000000 := rfl
  unfold kd
  rw [if_neg (by omega), if_neg (by omega), if_pos (by omega)]
theorem kd_tb (h : j < stN) : kd σ (strB + j) = (8, (strAt j).length) := by
  have e : stN = 117 := rfl
  have e1 : strK = 2000000 := rfl
  have e2 : fxN = 153 := rfl
  have e3 : scrK = 1000000 := rfl
  have e4 : strB = 3000000 := rfl
  unfold kd
  rw [if_neg (by omega), if_neg (by omega), if_neg (by omega), if_pos (by omega), Nat.add_sub_cancel_left]
theorem ao_tx (h : j < stN) : ao σ 30 (some (strK + j)) := ⟨rfl, by show (kd σ (strK + j)).1 = 50; rw [kd_tx h]⟩
theorem tb_tx : strB + (strK + j - strK) = strB + j := by rw [Nat.add_sub_cancel_left]
set_option maxRecDepth 100000 in
theorem x575_0 {a : Nat} : RR (lkB tb575) (B575_0, [some (mR (some a))], [], σ) = (if ao σ 30 (some a) then (if (-128 : Int) ≤ 0 ∧ (0 : Int) < 128 then some (some (mI 0), σ) else none) else none) := (RR_nop _ _ _ _ _ _).trans ((RR_eS _ 9 _).trans rfl)
set_option maxRecDepth 100000 in
theorem x576_0 {a : Nat} : RR (lkB tb576) (B576_0, [some (mR (some a))], [], σ) = (if ao σ 30 (some a) then (if bl 1 then some (some (mI 1), σ) else none) else none) := (RR_nop _ _ _ _ _ _).trans ((RR_eS _ 9 _).trans rfl)
set_option maxRecDepth 100000 in
theorem x577_0 {b : Nat} {i : Int} : RR (lkB tb577) (B577_0, [some (mR (some b)), some (mI i)], [], σ) = (if Option.isSome (some b) = true ∧ (kd σ b).1 = 8 then (if (0 ≤ i ∧ i < ((kd σ b).2 : Int)) ∧ stW [] ≤ 8 then (if Option.isSome (some b) = true ∧ ab σ 8 b i then (if 0 ≤ iAnd (((strAt (b - strB)).getD i.toNat 0 : Nat) : Int) 255 % 65536 ∧ iAnd (((strAt (b - strB)).getD i.toNat 0 : Nat) : Int) 255 % 65536 < 65536 then some (some (mI (iAnd (((strAt (b - strB)).getD i.toNat 0 : Nat) : Int) 255 % 65536)), σ) else none) else none) else none) else none) := (RR_nop _ _ _ _ _ _).trans ((RR_eS _ 14 _).trans rfl)
set_option maxRecDepth 100000 in
theorem x573_0 {a : Nat} : RR (lkB tb573) (B573_0, [some (mR (some a))], [], σ) = (if ao σ 30 (some a) then (if Option.isSome (some (strB + (a - strK))) = true ∧ (kd σ (strB + (a - strK))).1 = 8 then (if ao σ 30 (some a) then (MM 575 [mR (some a)] σ).bind fun q => RR (lkB tb573) (B573_9, [some (mR (some a))], q.1.toList ++ [mI ((kd σ (strB + (a - strK))).2 : Int)], q.2) else none) else none) else none) := (RR_nop _ _ _ _ _ _).trans ((RR_eS _ 7 _).trans rfl)
set_option maxRecDepth 100000 in
theorem x574_0 {a : Nat} {i : Int} : RR (lkB tb574) (B574_0, [some (mR (some a)), some (mI i)], [], σ) = (if ao σ 30 (some a) then (MM 576 [mR (some a)] σ).bind fun q => RR (lkB tb574) (B574_4, [some (mR (some a)), some (mI i)], q.1.toList ++ [], q.2) else none) := (RR_nop _ _ _ _ _ _).trans ((RR_eS _ 7 _).trans rfl)
set_option maxRecDepth 100000 in
theorem x574_4 {a : Nat} {i : Int} : RR (lkB tb574) (B574_4, [some (mR (some a)), some (mI i)], [mI 1], σ) = (if ao σ 30 (some a) then (MM 577 [mR (some (strB + (a - strK))), mI i] σ).bind fun q => RR (lkB tb574) (B574_15, [some (mR (some a)), some (mI i)], q.1.toList ++ [], q.2) else none) := (RR_nop _ _ _ _ _ _).trans ((RR_eS _ 7 _).trans rfl)
set_option maxRecDepth 100000 in
theorem x574_15 {a : Nat} {i y : Int} : RR (lkB tb574) (B574_15, [some (mR (some a)), some (mI i)], [mI y], σ) = (if 0 ≤ y ∧ y < 65536 then some (some (mI y), σ) else none) := (RR_nop _ _ _ _ _ _).trans ((RR_eS _ 3 _).trans rfl)
theorem T575t (h : j < stN) : MM 575 [mR (some (strK + j))] σ = some (some (mI 0), σ) := by
  rw [M575, x575_0, if_pos (ao_tx h), if_pos (by decide)]
theorem T576t (h : j < stN) : MM 576 [mR (some (strK + j))] σ = some (some (mI 1), σ) := by
  rw [M576, x576_0, if_pos (ao_tx h), if_pos (Or.inr rfl)]
theorem iShr_0 (x : Int) : iShr x 0 = x := by
  unfold iShr
  show x / 2 ^ 0 = x
  rw [show (2 : Int) ^ 0 = 1 from rfl, Int.ediv_one]
theorem T573t (h : j < stN) : MM 573 [mR (some (strK + j))] σ = some (some (mI (((strAt j).length : Nat) : Int)), σ) := by
  have k8 : Option.isSome (some (strB + (strK + j - strK))) = true ∧ (kd σ (strB + (strK + j - strK))).1 = 8 := ⟨rfl, by rw [tb_tx, kd_tb h]⟩
  rw [M573, x573_0, if_pos (ao_tx h), if_pos k8, if_pos (ao_tx h), T575t h, tb_tx, kd_tb h]
  show RR (lkB tb573) (B573_9, [some (mR (some (strK + j)))], [mI 0, mI (((strAt j).length : Nat) : Int)], σ) = _
  rw [e573_9, iShr_0]
theorem T577t (h : j < stN) (hi : i < (strAt j).length) (hc : (strAt j).getD i 0 < 256) : MM 577 [mR (some (strB + j)), mI (i : Int)] σ = some (some (mI (((strAt j).getD i 0 : Nat) : Int)), σ) := by
  have a : Option.isSome (some (strB + j)) = true ∧ (kd σ (strB + j)).1 = 8 := ⟨rfl, by rw [kd_tb h]⟩
  have b : (0 ≤ (i : Int) ∧ (i : Int) < ((kd σ (strB + j)).2 : Int)) ∧ stW [] ≤ 8 := ⟨⟨by omega, by rw [kd_tb h]; show (i : Int) < (((strAt j).length : Nat) : Int); omega⟩, by decide⟩
  have c : Option.isSome (some (strB + j)) = true ∧ ab σ 8 (strB + j) (i : Int) := ⟨rfl, by rw [kd_tb h], b.1.1, b.1.2⟩
  have e : iAnd (((strAt j).getD i 0 : Nat) : Int) 255 = (((strAt j).getD i 0 : Nat) : Int) := by
    rw [show (255 : Int) = 2 ^ 8 - 1 from rfl, iAnd_mask (k := 8) (by omega)]
    show _ % 256 = _
    omega
  rw [M577, x577_0, if_pos a, if_pos b, if_pos c, Nat.add_sub_cancel_left, Int.toNat_natCast, e]
  generalize (strAt j).getD i 0 = v at *
  have m : (v : Int) % 65536 = (v : Int) := by omega
  rw [m, if_pos (by omega)]
theorem T574t (h : j < stN) (hi : i < (strAt j).length) (hc : (strAt j).getD i 0 < 256) : MM 574 [mR (some (strK + j)), mI (i : Int)] σ = some (some (mI (((strAt j).getD i 0 : Nat) : Int)), σ) := by
  rw [M574, x574_0, if_pos (ao_tx h), T576t h]
  show RR (lkB tb574) (B574_4, [some (mR (some (strK + j))), some (mI (i : Int))], [mI 1], σ) = _
  rw [x574_4, if_pos (ao_tx h), tb_tx, T577t h hi hc]
  show RR (lkB tb574) (B574_15, [some (mR (some (strK + j))), some (mI (i : Int))], [mI (((strAt j).getD i 0 : Nat) : Int)], σ) = _
  rw [x574_15, if_pos (by omega)]
theorem T282 {h : Int} : MM 282 [mI h] σ = some (some (mR (some (strK + (if h = 1 ∨ h = 3 then 79 else if h = 2 then 80 else if h = 6 then 81 else if h = 12 then 82 else if h = 26 then 83 else if h = 44 then 84 else if h = 131 then 85 else if h = 132 ∨ h = 133 then 86 else 87)))), σ) := by
  rw [M282, e282_0]
  by_cases c1 : h = 1
  · rw [if_pos c1, if_pos (Or.inl c1)]
  · rw [if_neg c1]
    by_cases c2 : h = 2
    · rw [if_pos c2, if_neg (by omega), if_pos c2]
    · rw [if_neg c2]
      by_cases c3 : h = 3
      · rw [if_pos c3, if_pos (Or.inr c3)]
      · rw [if_neg c3, if_neg (show ¬ (h = 1 ∨ h = 3) by omega), if_neg c2]
        by_cases c6 : h = 6
        · rw [if_pos c6, if_pos c6]
        · rw [if_neg c6, if_neg c6]
          by_cases c12 : h = 12
          · rw [if_pos c12, if_pos c12]
          · rw [if_neg c12, if_neg c12]
            by_cases c26 : h = 26
            · rw [if_pos c26, if_pos c26]
            · rw [if_neg c26, if_neg c26]
              by_cases c44 : h = 44
              · rw [if_pos c44, if_pos c44]
              · rw [if_neg c44, if_neg c44]
                by_cases c131 : h = 131
                · rw [if_pos c131, if_pos c131]
                · rw [if_neg c131, if_neg c131]
                  by_cases c132 : h = 132
                  · rw [if_pos c132, if_pos (Or.inl c132)]
                  · rw [if_neg c132]
                    by_cases c133 : h = 133
                    · rw [if_pos c133, if_pos (Or.inr c133)]
                    · rw [if_neg c133, if_neg (by omega)]
theorem st_79 : strAt 79 = [49, 109, 50, 107] := by decide +kernel
theorem st_80 : strAt 80 = [49, 109, 50, 107, 51, 118, 52, 110] := by decide +kernel
theorem st_81 : strAt 81 = [50, 116, 49, 98] := by decide +kernel
theorem st_82 : strAt 82 = [49, 99, 50, 112, 51, 110] := by decide +kernel
theorem st_83 : strAt 83 = [49, 99, 50, 110, 52, 119, 51, 115] := by decide +kernel
theorem st_84 : strAt 84 = [49, 99, 50, 110] := by decide +kernel
theorem st_85 : strAt 85 = [49, 114, 50, 105, 51, 110] := by decide +kernel
theorem st_86 : strAt 86 = [49, 104, 50, 110] := by decide +kernel
theorem st_87 : strAt 87 = [] := by decide +kernel
end CTXT
