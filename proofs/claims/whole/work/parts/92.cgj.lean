/-! ===== the class's jumps ===== -/
section CGJ
variable {τ σ ρ : MS} {k j : Nat} {E : EV} {w : B64} {S T : ST} {t n g : Int} {x y : N6} {i : Int}
theorem T241f (H : SC σ k j E w) (f3 : gI σ k 3 = (sF S : Int)) (hF : 1 ≤ sF S ∧ sF S ≤ 4) (hd : fD w ≤ 10) : MM 241 [mR (some 40)] σ = some (some (mI ((pR S (dR w) : Nat) : Int)), σ) := by
  have f := (fld_rng w).2.1
  have e : (dR w : Int) = fD w := by show ((fD w).toNat : Int) = _; omega
  have t := T212 (r := dR w) (sc_k H) f3 hF (dR_10 hd)
  rw [e] at t
  simp only [M241, e241_0, e241_11, e241_14, Option.getD_some, Option.bind_some, Option.toList_some, Option.toList_none, List.cons_append, List.nil_append, and_self, and_true, true_and, false_and, and_false, ite_self, not_true_eq_false, not_false_eq_true, reduceIte, Nat.reduceEqDiff, ab_I, ab_L, ab_R, ao_I, ao_L, ao_R, gL_sL, gI_sI, gR_sR, gI_sL, gI_sR, gL_sI, gL_sR, gR_sI, gR_sL, sc_w H, T1, sc_h H, sc_ao H, t]
theorem T242f (H : SC σ k j E w) (f3 : gI σ k 3 = (sF S : Int)) (hF : 1 ≤ sF S ∧ sF S ≤ 4) (hs : fS w ≤ 10) : MM 242 [mR (some 40)] σ = some (some (mI ((pR S (sRr w) : Nat) : Int)), σ) := by
  have f := (fld_rng w).2.2.1
  have e : (sRr w : Int) = fS w := by show ((fS w).toNat : Int) = _; omega
  have t := T212 (r := sRr w) (sc_k H) f3 hF (sR_10 hs)
  rw [e] at t
  simp only [M242, e242_0, e242_11, e242_14, Option.getD_some, Option.bind_some, Option.toList_some, Option.toList_none, List.cons_append, List.nil_append, and_self, and_true, true_and, false_and, and_false, ite_self, not_true_eq_false, not_false_eq_true, reduceIte, Nat.reduceEqDiff, ab_I, ab_L, ab_R, ao_I, ao_L, ao_R, gL_sL, gI_sI, gR_sR, gI_sL, gI_sR, gL_sI, gL_sR, gR_sI, gR_sL, sc_w H, T2, sc_h H, sc_ao H, t]
theorem sfq_j (hd : k + 3 < j ∨ j + 3 < k) (q : csq τ σ j) : sfq τ σ k j := ⟨fun k' s _ _ r => q.1 k' s (by omega) (by omega) (by omega), fun k' s _ _ r => q.2.1 k' s r, fun k' s _ => gR_r q.2.2, by rw [q.2.2]⟩
/-- the sides come to a state -/
theorem T281 {s p q : Nat} {fx : Int} (H : SC σ k j E w) (f3 : gI σ k 3 = (sF T : Int)) (hs : s = k ∨ s = j) (hT : CSt σ s T) (hF : 1 ≤ sF T ∧ sF T ≤ 4) (hd : fD w ≤ 9) (hsr : fx = 0 → fS w ≤ 9) (hp : isNm σ p) (hq : isNm σ q) (hp2 : 42 ≤ p ∧ p ≤ 50) (hq2 : 42 ≤ q ∧ q ≤ 50) :
    okc (MM 281 [mR (some 40), mR (some s), mR (some p), mR (some q), mI fx] σ) none (fun τ => CSt τ s (if fx = 0 then wV (wV T (dR w) (numV (rC σ p))) (sRr w) (numV (rC σ q)) else wV T (dR w) (numV (rC σ p))) ∧ crq τ σ s) := by
  have dd := H.1.2.1
  have sc : stC s := by rcases hs with h | h <;> rw [h]
                        · exact H.1.2.2.1
                        · exact H.1.2.2.2
  have ss : isSt σ s := by rcases hs with h | h <;> rw [h]
                           · exact H.1.1.1
                           · exact H.1.1.2
  have d9 : dR w ≤ 9 := by have := dR_9 hd; omega
  have t41 := T241f H f3 hF (show fD w ≤ 10 by omega)
  obtain ⟨τ1, t18, q18⟩ := T218 (j := p) (pl := pR T (dR w)) ss hp (by omega) (pR_lt hF (by omega))
  have c1 := CSt_w hF hT d9 q18
  have cq := crq_c q18
  have sq : sfq τ1 σ k j := by
    rcases hs with h | h
    · subst h
      exact sfq_c cq
    · subst h
      exact sfq_j dd (csq_c cq)
  have H1 := SC_q sq H
  have f31 : gI τ1 k 3 = (sF T : Int) := (cq.1 _ _).trans f3
  have as : ao σ 8 (some s) = True := aoS ss
  by_cases f0 : fx = 0
  · rw [if_pos f0]
    have hs9 := hsr f0
    have s9 : sRr w ≤ 9 := by have := (fld_rng w).2.2.1; show (fS w).toNat ≤ 9; omega
    have t42 := T242f H1 f31 hF (show fS w ≤ 10 by omega)
    have ss1 : isSt τ1 s := st_r q18.2.2.1 ss
    obtain ⟨τ2, t18b, q18b⟩ := T218 (j := q) (pl := pR T (sRr w)) ss1 ((kd_r q18.2.2.1).trans hq) (by omega) (pR_lt hF (by omega))
    have rq : rC τ1 q = rC σ q := by
      have e : ∀ i, gL τ1 q i = gL σ q i := fun i => cq.2.1 _ _ (by omega)
      unfold rC
      rw [e, e, e, e, e, e]
    rw [rq] at q18b
    have c2 := CSt_w (S := wV T (dR w) (numV (rC σ p))) hF c1 s9 q18b
    have as1 : ao τ1 8 (some s) = True := aoS ss1
    refine okc_o (τ := τ2) ?_ ⟨c2, crq_t (crq_c q18b) cq⟩
    simp only [M281, e281_0, e281_5, e281_9, e281_19, e281_23, Option.getD_some, Option.bind_some, Option.toList_some, Option.toList_none, List.cons_append, List.nil_append, and_self, and_true, true_and, false_and, and_false, ite_self, not_true_eq_false, not_false_eq_true, reduceIte, Nat.reduceEqDiff, ab_I, ab_L, ab_R, ao_I, ao_L, ao_R, gL_sL, gI_sI, gR_sR, gI_sL, gI_sR, gL_sI, gL_sR, gR_sI, gR_sL, t41, as, t18, f0, t42, as1, t18b]
  · rw [if_neg f0]
    refine okc_o (τ := τ1) ?_ ⟨c1, cq⟩
    simp only [M281, e281_0, e281_5, e281_9, e281_23, Option.getD_some, Option.bind_some, Option.toList_some, Option.toList_none, List.cons_append, List.nil_append, and_self, and_true, true_and, false_and, and_false, ite_self, not_true_eq_false, not_false_eq_true, reduceIte, Nat.reduceEqDiff, ab_I, ab_L, ab_R, ao_I, ao_L, ao_R, gL_sL, gI_sI, gR_sR, gI_sL, gI_sR, gL_sI, gL_sR, gR_sI, gR_sL, t41, as, t18, f0]
theorem decX_r {c : Int} {x y : N6} : decX c x y = 1 ∨ decX c x y = 0 ∨ decX c x y = -1 := by
  have a : ∀ x y, aboN x y = 1 ∨ aboN x y = 0 ∨ aboN x y = -1 := fun x y => by
    unfold aboN
    repeat' split
    all_goals simp
  have b : ∀ x y, nblN x y = 1 ∨ nblN x y = 0 ∨ nblN x y = -1 := fun x y => by
    unfold nblN
    repeat' split
    all_goals simp
  have a' : ∀ x y, aboS x y = 1 ∨ aboS x y = 0 ∨ aboS x y = -1 := fun x y => by
    unfold aboS
    repeat' split
    all_goals simp
  have b' : ∀ x y, nblS x y = 1 ∨ nblS x y = 0 ∨ nblS x y = -1 := fun x y => by
    unfold nblS
    repeat' split
    all_goals simp
  have e := equN_r x y
  unfold decX
  split
  · exact e
  · split
    · split
      · omega
      · omega
    · split
      · repeat' split
        all_goals simp
      · split
        · exact a _ _
        · split
          · exact b _ _
          · split
            · exact a _ _
            · split
              · exact b _ _
              · split
                · exact a' _ _
                · split
                  · exact b' _ _
                  · split
                    · exact a' _ _
                    · exact b' _ _
theorem decN_r {c : Int} {b : Bool} {x y : N6} : decN c b x y = 1 ∨ decN c b x y = 0 ∨ decN c b x y = -1 := by
  unfold decN
  split
  · exact decX_r
  · split
    · repeat' split
      all_goals simp
    · exact decX_r
/-- the right side's number -/
abbrev sdN (S : ST) (w : B64) : N6 := vn (sidJ S w)
theorem sd_w (h : widJ w) : sdN S w = vn (rgtV S w) := by
  unfold sdN sidJ rgtV immJ
  split
  · rfl
  · rfl
theorem sd_r (h : rgt w) : sidJ S w = rgtV S w := by
  unfold sidJ rgtV
  rw [if_pos h, if_pos h]
theorem sd_i (h : ¬ rgt w) : sidJ S w = numV (cstN (immJ w)) := if_neg h
theorem sd_k : vk (sidJ S w) = vk (rgtV S w) := by
  unfold sidJ rgtV
  split <;> rfl
theorem sd_c (h : ¬ widJ w) : cutT (sdN S w) = cutT (vn (rgtV S w)) := by
  by_cases r : rgt w
  · unfold sdN
    rw [sd_r r]
  · unfold sdN rgtV
    rw [sd_i r, if_neg r]
    show cutT (cstN (immJ w)) = cutT (cstN (BitVec.ofInt 64 (fI w)))
    unfold immJ
    rw [if_neg h, cutT_cst, cutT_cst, cF_cF]
/-- where a way waits though nothing is known by it -/
abbrev ptC (S : ST) (w : B64) (x y : N6) : Prop := (rgt w ∧ fD w = fS w) ∨ ¬ (widJ w ∨ ¬ isSgn (fC w) ∧ ¬ cF < jB x ∧ ¬ cF < jB y)
theorem cF_hi (b : B64) : (lUsh b 32 = BitVec.ofNat 64 0) = ¬ cF < b := by
  rw [show lUsh b 32 = lUsh b ((32 : Nat) : Int) from rfl, lUsh_k b (by decide), BitVec.lt_def, cF_toNat]
  apply propext
  constructor
  · intro h
    have := congrArg BitVec.toNat h
    rw [BitVec.toNat_ushiftRight, Nat.shiftRight_eq_div_pow] at this
    have this : b.toNat / 4294967296 = 0 := this
    omega
  · intro h
    apply BitVec.eq_of_toNat_eq
    rw [BitVec.toNat_ushiftRight, Nat.shiftRight_eq_div_pow]
    show b.toNat / 4294967296 = 0
    omega
/-- numbers, before they are narrowed -/
theorem T267 (H : SC σ k j E w) (hS : CSt σ k S) (P : PX S E t) (ht : gI σ 40 8 = t) (h4 : gI σ 40 4 = n) (h5 : gI σ 40 5 = g) (h3 : gI σ 40 3 = 0) (hl : ak σ 2 (gR σ k 6)) (hd : fD w ≤ 10) (hs : rgt w → fS w ≤ 10) (hc : isCmp (fC w)) (h56 : fL w = 5 ∨ fL w = 6) (kL : vk (rgV S (dR w)) = 1) (kR : vk (sidJ S w) = 1) :
    okc (MM 267 [mR (some 40), mI (fC w), mI (b2 (widJ w))] σ) (some (mI 1)) (fun τ => spj σ τ k j (numJ S w g n t))
    ∨ ((decN (fC w) (decide (widJ w)) (vn (rgV S (dR w))) (sdN S w) = -1 ∧ ¬ ptC S w (vn (rgV S (dR w))) (sdN S w)) ∧ okc (MM 267 [mR (some 40), mI (fC w), mI (b2 (widJ w))] σ) (some (mI 0)) (fun τ => nfq τ σ ∧ rC τ 42 = vn (rgV S (dR w)) ∧ rC τ 43 = sdN S w)) := by
  have F := PX_F P
  have sc := sc_c H
  obtain ⟨X, Y, t48, eX, eY⟩ := T248 H hS P hd hs
  have eX := eX (by omega)
  have eY := eY (fun r => by
    have e : rgtV S w = rgV S (sRr w) := if_pos r
    rw [← e, ← sd_k]
    omega)
  subst eX eY
  obtain ⟨c, hcc⟩ : ∃ c, c = fC w := ⟨_, rfl⟩
  rw [← hcc] at hc ⊢
  obtain ⟨σ1, hσ1⟩ : ∃ σ1, σ1 = wC (wC (wC (wC σ 42 (vn (rgV S (dR w)))) 43 (vn (rgtV S w))) 45 (vn (rgV S (dR w)))) 46 (vn (rgtV S w)) := ⟨_, rfl⟩
  have t66a := T66 (σ := wC (wC σ 42 (vn (rgV S (dR w)))) 43 (vn (rgtV S w))) (k := 45) (j := 42) (kc_45 _) (kc_42 _) (by decide)
  rw [rC_wC, if_neg (by decide), rC_wC, if_pos rfl] at t66a
  have t66b := T66 (σ := wC (wC (wC σ 42 (vn (rgV S (dR w)))) 43 (vn (rgtV S w))) 45 (vn (rgV S (dR w)))) (k := 46) (j := 43) (kc_46 _) (kc_43 _) (by decide)
  rw [rC_wC, if_neg (by decide), rC_wC, if_pos rfl] at t66b
  rw [← hσ1] at t66b
  have q1 : nfq σ1 σ := by rw [hσ1]; exact nfq_t (nfq_w (by omega)) (nfq_t (nfq_w (by omega)) (nfq_t (nfq_w (by omega)) (nfq_w (by omega))))
  have r42 : rC σ1 42 = vn (rgV S (dR w)) := by rw [hσ1, rC_wC, if_neg (by decide), rC_wC, if_neg (by decide), rC_wC, if_neg (by decide), rC_wC, if_pos rfl]
  have r43 : rC σ1 43 = vn (rgtV S w) := by rw [hσ1, rC_wC, if_neg (by decide), rC_wC, if_neg (by decide), rC_wC, if_pos rfl]
  have r45 : rC σ1 45 = vn (rgV S (dR w)) := by rw [hσ1, rC_wC, if_neg (by decide), rC_wC, if_pos rfl]
  have r46 : rC σ1 46 = vn (rgtV S w) := by rw [hσ1, rC_wC, if_pos rfl]
  have s31 : MM 267 [mR (some 40), mI c, mI (b2 (widJ w))] σ = RR (lkB tb267) (B267_31, [some (mR (some 40)), some (mI c), some (mI (b2 (widJ w))), some (mI (b2 (isSgn c))), none, none], [], σ1) := by
    simp only [M267, e267_0, e267_4, e267_8, e267_20, Option.getD_some, Option.bind_some, Option.toList_some, Option.toList_none, List.cons_append, List.nil_append, and_self, and_true, true_and, false_and, and_false, ite_self, not_true_eq_false, not_false_eq_true, reduceIte, Nat.reduceEqDiff, ab_I, ab_L, ab_R, ao_I, ao_L, ao_R, gL_sL, gI_sI, gR_sR, gI_sL, gI_sR, gL_sI, gL_sR, gR_sI, gR_sL, t48, T266, t66a, t66b]
  clear hσ1 t48 t66a t66b
  -- the verdict
  obtain ⟨ρ, s84, qρ, p42, p43, p46⟩ : ∃ ρ, RR (lkB tb267) (B267_31, [some (mR (some 40)), some (mI c), some (mI (b2 (widJ w))), some (mI (b2 (isSgn c))), none, none], [], σ1) = RR (lkB tb267) (B267_84, [some (mR (some 40)), some (mI c), some (mI (b2 (widJ w))), some (mI (b2 (isSgn c))), none, none], [mI (decN c (decide (widJ w)) (vn (rgV S (dR w))) (sdN S w))], ρ) ∧ nfq ρ σ ∧ rC ρ 42 = vn (rgV S (dR w)) ∧ rC ρ 43 = vn (rgtV S w) ∧ (¬ rgt w → rC ρ 46 = sdN S w) := by
    by_cases wd : widJ w
    · have dn : decN c (decide (widJ w)) (vn (rgV S (dR w))) (sdN S w) = decX c (vn (rgV S (dR w))) (vn (rgtV S w)) := by
        unfold decN
        rw [if_pos (decide_eq_true wd), sd_w wd]
      have t68 := T268 (σ := σ1) (c := c) (p := 45) (q := 46) hc (kc_45 _) (kc_46 _)
      rw [r45, r46] at t68
      refine ⟨σ1, ?_, q1, r42, r43, fun _ => by rw [r46, sd_w wd]⟩
      rw [dn, b2_yes wd]
      simp only [e267_31, e267_57, e267_65, e267_77, Option.getD_some, Option.bind_some, Option.toList_some, Option.toList_none, List.cons_append, List.nil_append, and_self, and_true, true_and, false_and, and_false, ite_self, not_true_eq_false, not_false_eq_true, reduceIte, Nat.reduceEqDiff, ab_I, ab_L, ab_R, ao_I, ao_L, ao_R, gL_sL, gI_sI, gR_sR, gI_sL, gI_sR, gL_sI, gL_sR, gR_sI, gR_sL, oneI, t68]
    · have t75a := T75 (σ := σ1) (k := 45) (j := 42) (kc_45 _) (kc_42 _) (by decide)
      rw [r42] at t75a
      have t75b := T75 (σ := wC σ1 45 (cutT (vn (rgV S (dR w))))) (k := 46) (j := 43) (kc_46 _) (kc_43 _) (by decide)
      rw [rC_wC, if_neg (by decide), r43] at t75b
      obtain ⟨ρ, hρ⟩ : ∃ ρ, ρ = wC (wC σ1 45 (cutT (vn (rgV S (dR w))))) 46 (cutT (vn (rgtV S w))) := ⟨_, rfl⟩
      rw [← hρ] at t75b
      have u45 : rC ρ 45 = cutT (vn (rgV S (dR w))) := by rw [hρ, rC_wC, if_neg (by decide), rC_wC, if_pos rfl]
      have u46 : rC ρ 46 = cutT (vn (rgtV S w)) := by rw [hρ, rC_wC, if_pos rfl]
      have u42 : rC ρ 42 = vn (rgV S (dR w)) := by rw [hρ, rC_wC, if_neg (by decide), rC_wC, if_neg (by decide), r42]
      have u43 : rC ρ 43 = vn (rgtV S w) := by rw [hρ, rC_wC, if_neg (by decide), rC_wC, if_neg (by decide), r43]
      have qρ : nfq ρ σ := by rw [hρ]; exact nfq_t (nfq_w (by omega)) (nfq_t (nfq_w (by omega)) q1)
      have e46 : ¬ rgt w → rC ρ 46 = sdN S w := fun r => by
        rw [u46, ← sd_c wd]
        show cutT (vn (sidJ S w)) = vn (sidJ S w)
        rw [sd_i r]
        show cutT (cstN (immJ w)) = cstN (immJ w)
        rw [cutT_cst]
        unfold immJ
        rw [if_neg wd, cF_cF]
      by_cases sg : isSgn c
      · have dn : decN c (decide (widJ w)) (vn (rgV S (dR w))) (sdN S w) = (if isC (cutT (vn (rgV S (dR w)))) ∧ isC (cutT (vn (rgtV S w))) then (if cmpB c false (jV (cutT (vn (rgV S (dR w))))) (jV (cutT (vn (rgtV S w)))) = true then 1 else 0) else -1) := by
          unfold decN
          rw [decide_eq_false wd, if_neg (by decide), if_pos sg, sd_c wd]
        have t73 := T273 (σ := ρ) (w := w) (x := vn (rgV S (dR w))) (y := vn (rgtV S w)) (sc_p (SC_n qρ H)) (by rw [← hcc]; exact hc) (by
          rcases h56 with h | h
          · exact absurd h wd
          · exact h) u45 u46
        rw [← hcc, ← dn] at t73
        refine ⟨ρ, ?_, qρ, u42, u43, e46⟩
        rw [b2_no wd, b2_yes sg]
        simp only [e267_31, e267_46, e267_57, Option.getD_some, Option.bind_some, Option.toList_some, Option.toList_none, List.cons_append, List.nil_append, and_self, and_true, true_and, false_and, and_false, ite_self, not_true_eq_false, not_false_eq_true, reduceIte, Nat.reduceEqDiff, ab_I, ab_L, ab_R, ao_I, ao_L, ao_R, gL_sL, gI_sI, gR_sR, gI_sL, gI_sR, gL_sI, gL_sR, gR_sI, gR_sL, oneI, t75a, t75b, t73]
      · have dn : decN c (decide (widJ w)) (vn (rgV S (dR w))) (sdN S w) = decX c (cutT (vn (rgV S (dR w)))) (cutT (vn (rgtV S w))) := by
          unfold decN
          rw [decide_eq_false wd, if_neg (by decide), if_neg sg, sd_c wd]
        have t68 := T268 (σ := ρ) (c := c) (p := 45) (q := 46) hc (kc_45 _) (kc_46 _)
        rw [u45, u46] at t68
        refine ⟨ρ, ?_, qρ, u42, u43, e46⟩
        rw [dn, b2_no wd, b2_no sg]
        simp only [e267_31, e267_46, e267_57, e267_65, e267_77, Option.getD_some, Option.bind_some, Option.toList_some, Option.toList_none, List.cons_append, List.nil_append, and_self, and_true, true_and, false_and, and_false, ite_self, not_true_eq_false, not_false_eq_true, reduceIte, Nat.reduceEqDiff, ab_I, ab_L, ab_R, ao_I, ao_L, ao_R, gL_sL, gI_sI, gR_sR, gI_sL, gI_sR, gL_sI, gL_sR, gR_sI, gR_sL, t75a, t75b, t68]
  rw [s31, s84]
  clear s31 s84
  have Hρ := SC_n qρ H
  have Sρ := CSt_n sc qρ hS
  have g4 : gI ρ 40 4 = n := (qρ.1 _ _).trans h4
  have g5 : gI ρ 40 5 = g := (qρ.1 _ _).trans h5
  have g3 : gI ρ 40 3 = 0 := (qρ.1 _ _).trans h3
  have g8 : gI ρ 40 8 = t := (qρ.1 _ _).trans ht
  unfold numJ
  rw [← hcc]
  generalize hv : decN c (decide (widJ w)) (vn (rgV S (dR w))) (vn (sidJ S w)) = v
  have hv3 : v = 1 ∨ v = 0 ∨ v = -1 := by rw [← hv]; exact decN_r
  rcases hv3 with v1 | v0 | vm
  · subst v1
    left
    rw [if_pos rfl]
    refine okc_o (τ := sI ρ 40 4 (gI ρ 40 5)) ?_ ⟨sfq_t (sfq_i (by omega)) (sfq_n qρ), fun _ => ⟨?_, CSt_i sc Sρ, ?_, ?_⟩⟩
    · simp only [e267_84, Option.getD_some, Option.bind_some, Option.toList_some, Option.toList_none, List.cons_append, List.nil_append, and_self, and_true, true_and, false_and, and_false, ite_self, not_true_eq_false, not_false_eq_true, reduceIte, Nat.reduceEqDiff, ab_I, ab_L, ab_R, ao_I, ao_L, ao_R, gL_sL, gI_sI, gR_sR, gI_sL, gI_sR, gL_sI, gL_sR, gR_sI, gR_sL, Int.reduceEq]
    · rw [gI_sI, if_neg (by omega)]; exact g8
    · rw [gI_sI, if_pos ⟨rfl, rfl⟩]; exact g5
    · rw [gI_sI, if_neg (by omega)]; exact g3
  · subst v0
    left
    rw [if_neg (show ¬ (0 : Int) = 1 by decide), if_pos rfl]
    refine okc_o (τ := sI ρ 40 4 (gI ρ 40 4)) ?_ ⟨sfq_t (sfq_i (by omega)) (sfq_n qρ), fun _ => ⟨?_, CSt_i sc Sρ, ?_, ?_⟩⟩
    · simp only [e267_84, Option.getD_some, Option.bind_some, Option.toList_some, Option.toList_none, List.cons_append, List.nil_append, and_self, and_true, true_and, false_and, and_false, ite_self, not_true_eq_false, not_false_eq_true, reduceIte, Nat.reduceEqDiff, ab_I, ab_L, ab_R, ao_I, ao_L, ao_R, gL_sL, gI_sI, gR_sR, gI_sL, gI_sR, gL_sI, gL_sR, gR_sI, gR_sL, Int.reduceEq]
    · rw [gI_sI, if_neg (by omega)]; exact g8
    · rw [gI_sI, if_pos ⟨rfl, rfl⟩]; exact g4
    · rw [gI_sI, if_neg (by omega)]; exact g3
  · subst vm
    rw [if_neg (show ¬ (-1 : Int) = 1 by decide), if_neg (show ¬ (-1 : Int) = 0 by decide)]
    -- the right side is the constant that is looked at
    obtain ⟨ρ1, s133, q1', u42, u43⟩ : ∃ ρ1, RR (lkB tb267) (B267_84, [some (mR (some 40)), some (mI c), some (mI (b2 (widJ w))), some (mI (b2 (isSgn c))), none, none], [mI (-1)], ρ) = RR (lkB tb267) (B267_133, [some (mR (some 40)), some (mI c), some (mI (b2 (widJ w))), some (mI (b2 (isSgn c))), some (mI (-1)), none], [], ρ1) ∧ nfq ρ1 σ ∧ rC ρ1 42 = vn (rgV S (dR w)) ∧ rC ρ1 43 = sdN S w := by
      have t43 := T243 Hρ
      by_cases r : rgt w
      · rw [b2_yes r] at t43
        refine ⟨ρ, ?_, qρ, p42, by rw [p43]; show _ = vn (sidJ S w); rw [sd_r r]⟩
        simp only [e267_84, e267_119, Option.getD_some, Option.bind_some, Option.toList_some, Option.toList_none, List.cons_append, List.nil_append, and_self, and_true, true_and, false_and, and_false, ite_self, not_true_eq_false, not_false_eq_true, reduceIte, Nat.reduceEqDiff, ab_I, ab_L, ab_R, ao_I, ao_L, ao_R, gL_sL, gI_sI, gR_sR, gI_sL, gI_sR, gL_sI, gL_sR, gR_sI, gR_sL, t43, oneI]
      · rw [b2_no r] at t43
        have t66 := T66 (σ := ρ) (k := 43) (j := 46) (kc_43 _) (kc_46 _) (by decide)
        rw [p46 r] at t66
        refine ⟨wC ρ 43 (sdN S w), ?_, nfq_t (nfq_w (by omega)) qρ, by rw [rC_wC, if_neg (by decide), p42], by rw [rC_wC, if_pos rfl]⟩
        simp only [e267_84, e267_119, Option.getD_some, Option.bind_some, Option.toList_some, Option.toList_none, List.cons_append, List.nil_append, and_self, and_true, true_and, false_and, and_false, ite_self, not_true_eq_false, not_false_eq_true, reduceIte, Nat.reduceEqDiff, ab_I, ab_L, ab_R, ao_I, ao_L, ao_R, gL_sL, gI_sI, gR_sR, gI_sL, gI_sR, gL_sI, gL_sR, gR_sI, gR_sL, t43, t66]
    rw [s133]
    have H1 := SC_n q1' H
    have t43 := T243 H1
    have s162 : RR (lkB tb267) (B267_133, [some (mR (some 40)), some (mI c), some (mI (b2 (widJ w))), some (mI (b2 (isSgn c))), some (mI (-1)), none], [], ρ1) = RR (lkB tb267) (B267_162, [some (mR (some 40)), some (mI c), some (mI (b2 (widJ w))), some (mI (b2 (isSgn c))), some (mI (-1)), none], [mI (b2 (rgt w ∧ fD w = fS w))], ρ1) := by
      by_cases r : rgt w
      · rw [b2_yes r] at t43
        by_cases e : fD w = fS w
        · rw [b2_yes (p := rgt w ∧ fD w = fS w) ⟨r, e⟩]
          simp only [e267_133, e267_137, e267_147, e267_154, Option.getD_some, Option.bind_some, Option.toList_some, Option.toList_none, List.cons_append, List.nil_append, and_self, and_true, true_and, false_and, and_false, ite_self, not_true_eq_false, not_false_eq_true, reduceIte, Nat.reduceEqDiff, ab_I, ab_L, ab_R, ao_I, ao_L, ao_R, gL_sL, gI_sI, gR_sR, gI_sL, gI_sR, gL_sI, gL_sR, gR_sI, gR_sL, t43, oneI, sc_w H1, T2, T1, e]
        · rw [b2_no (p := rgt w ∧ fD w = fS w) (fun z => e z.2)]
          have e' : ¬ fS w = fD w := fun z => e z.symm
          simp only [e267_133, e267_137, e267_147, e267_154, e267_161, Option.getD_some, Option.bind_some, Option.toList_some, Option.toList_none, List.cons_append, List.nil_append, and_self, and_true, true_and, false_and, and_false, ite_self, not_true_eq_false, not_false_eq_true, reduceIte, Nat.reduceEqDiff, ab_I, ab_L, ab_R, ao_I, ao_L, ao_R, gL_sL, gI_sI, gR_sR, gI_sL, gI_sR, gL_sI, gL_sR, gR_sI, gR_sL, t43, oneI, sc_w H1, T2, T1, e']
      · rw [b2_no r] at t43
        rw [b2_no (p := rgt w ∧ fD w = fS w) (fun z => r z.1)]
        simp only [e267_133, e267_137, e267_161, Option.getD_some, Option.bind_some, Option.toList_some, Option.toList_none, List.cons_append, List.nil_append, and_self, and_true, true_and, false_and, and_false, ite_self, not_true_eq_false, not_false_eq_true, reduceIte, Nat.reduceEqDiff, ab_I, ab_L, ab_R, ao_I, ao_L, ao_R, gL_sL, gI_sI, gR_sR, gI_sL, gI_sR, gL_sI, gL_sR, gR_sI, gR_sL, t43]
    rw [s162]
    have g42 : gL ρ1 42 3 = jB (vn (rgV S (dR w))) := by rw [← u42]; rfl
    have g43 : gL ρ1 43 3 = jB (sdN S w) := by rw [← u43]; rfl
    have hl1 : ak ρ1 2 (gR ρ1 k 6) := by
      rw [gR_r q1'.2.2]
      intro z
      have := hl z
      rwa [kd_r q1'.2.2]
    by_cases pt : ptC S w (vn (rgV S (dR w))) (sdN S w)
    · left
      have pt' : (rgt w ∧ fD w = fS w) ∨ ¬ (widJ w ∨ ¬ isSgn c ∧ ¬ cF < jB (vn (rgV S (dR w))) ∧ ¬ cF < jB (vn (sidJ S w))) := by
        rw [hcc]
        exact pt
      rw [if_pos pt']
      obtain ⟨τ, t63, p⟩ := T263 H1 (CSt_n sc q1' hS) P hl1
      have sp := spj_p (n := n) (g := g) H1 ((q1'.1 _ _).trans ht) ((q1'.1 _ _).trans h4) ((q1'.1 _ _).trans h5) p
      have sp' : spj σ τ k j (0, some (n, S), some (g, S), t) := ⟨sfq_t sp.1 (sfq_n q1'), fun z => by
        obtain ⟨y1, y2, y3, y4, y5⟩ := sp.2 z
        exact ⟨y1, y2, y3, y4.trans (q1'.1 _ _), y5.trans (gR_r q1'.2.2)⟩⟩
      refine okc_o (τ := τ) ?_ sp'
      have s207 : RR (lkB tb267) (B267_162, [some (mR (some 40)), some (mI c), some (mI (b2 (widJ w))), some (mI (b2 (isSgn c))), some (mI (-1)), none], [mI (b2 (rgt w ∧ fD w = fS w))], ρ1) = RR (lkB tb267) (B267_207, [some (mR (some 40)), some (mI c), some (mI (b2 (widJ w))), some (mI (b2 (isSgn c))), some (mI (-1)), some (mI (b2 (rgt w ∧ fD w = fS w)))], [], ρ1) := by
        by_cases sm : rgt w ∧ fD w = fS w
        · rw [b2_yes sm]
          simp only [e267_162, Option.getD_some, Option.bind_some, Option.toList_some, Option.toList_none, List.cons_append, List.nil_append, and_self, and_true, true_and, false_and, and_false, ite_self, not_true_eq_false, not_false_eq_true, reduceIte, Nat.reduceEqDiff, ab_I, ab_L, ab_R, ao_I, ao_L, ao_R, gL_sL, gI_sI, gR_sR, gI_sL, gI_sR, gL_sI, gL_sR, gR_sI, gR_sL, oneI]
        · have o := pt'.resolve_left sm
          have wd : ¬ widJ w := fun z => o (Or.inl z)
          rw [b2_no sm, b2_no wd]
          by_cases sg : isSgn c
          · rw [b2_yes sg]
            simp only [e267_162, Option.getD_some, Option.bind_some, Option.toList_some, Option.toList_none, List.cons_append, List.nil_append, and_self, and_true, true_and, false_and, and_false, ite_self, not_true_eq_false, not_false_eq_true, reduceIte, Nat.reduceEqDiff, ab_I, ab_L, ab_R, ao_I, ao_L, ao_R, gL_sL, gI_sI, gR_sR, gI_sL, gI_sR, gL_sI, gL_sR, gR_sI, gR_sL, oneI]
          · rw [b2_no sg]
            by_cases hi : cF < jB (vn (rgV S (dR w)))
            · simp only [e267_162, Option.getD_some, Option.bind_some, Option.toList_some, Option.toList_none, List.cons_append, List.nil_append, and_self, and_true, true_and, false_and, and_false, ite_self, not_true_eq_false, not_false_eq_true, reduceIte, Nat.reduceEqDiff, ab_I, ab_L, ab_R, ao_I, ao_L, ao_R, gL_sL, gI_sI, gR_sR, gI_sL, gI_sR, gL_sI, gL_sR, gR_sI, gR_sL, g42, cF_hi, eq_true hi]
            · have hi2 : cF < jB (sdN S w) := Classical.byContradiction fun z => o (Or.inr ⟨sg, hi, z⟩)
              simp only [e267_162, Option.getD_some, Option.bind_some, Option.toList_some, Option.toList_none, List.cons_append, List.nil_append, and_self, and_true, true_and, false_and, and_false, ite_self, not_true_eq_false, not_false_eq_true, reduceIte, Nat.reduceEqDiff, ab_I, ab_L, ab_R, ao_I, ao_L, ao_R, gL_sL, gI_sI, gR_sR, gI_sL, gI_sR, gL_sI, gL_sR, gR_sI, gR_sL, g42, g43, cF_hi, eq_false hi, eq_true hi2]
      rw [s207]
      simp only [e267_207, e267_211, Option.getD_some, Option.bind_some, Option.toList_some, Option.toList_none, List.cons_append, List.nil_append, and_self, and_true, true_and, false_and, and_false, ite_self, not_true_eq_false, not_false_eq_true, reduceIte, Nat.reduceEqDiff, ab_I, ab_L, ab_R, ao_I, ao_L, ao_R, gL_sL, gI_sI, gR_sR, gI_sL, gI_sR, gL_sI, gL_sR, gR_sI, gR_sL, t63]
    · right
      refine ⟨⟨rfl, pt⟩, ?_⟩
      refine okc_o (τ := ρ1) ?_ ⟨q1', u42, u43⟩
      have sm : ¬ (rgt w ∧ fD w = fS w) := fun z => pt (Or.inl z)
      have o : widJ w ∨ ¬ isSgn (fC w) ∧ ¬ cF < jB (vn (rgV S (dR w))) ∧ ¬ cF < jB (sdN S w) := Classical.byContradiction fun z => pt (Or.inr z)
      rw [b2_no sm]
      by_cases wd : widJ w
      · rw [b2_yes wd]
        simp only [e267_162, Option.getD_some, Option.bind_some, Option.toList_some, Option.toList_none, List.cons_append, List.nil_append, and_self, and_true, true_and, false_and, and_false, ite_self, not_true_eq_false, not_false_eq_true, reduceIte, Nat.reduceEqDiff, ab_I, ab_L, ab_R, ao_I, ao_L, ao_R, gL_sL, gI_sI, gR_sR, gI_sL, gI_sR, gL_sI, gL_sR, gR_sI, gR_sL, oneI]
      · obtain ⟨o1, o2, o3⟩ := o.resolve_left wd
        rw [← hcc] at o1
        rw [b2_no wd, b2_no o1]
        simp only [e267_162, Option.getD_some, Option.bind_some, Option.toList_some, Option.toList_none, List.cons_append, List.nil_append, and_self, and_true, true_and, false_and, and_false, ite_self, not_true_eq_false, not_false_eq_true, reduceIte, Nat.reduceEqDiff, ab_I, ab_L, ab_R, ao_I, ao_L, ao_R, gL_sL, gI_sI, gR_sR, gI_sL, gI_sR, gL_sI, gL_sR, gR_sI, gR_sL, g42, g43, cF_hi, eq_false o2, eq_false o3]
end CGJ
