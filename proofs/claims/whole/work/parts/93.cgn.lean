/-! ===== the class narrows two numbers, against numJ ===== -/
section CGN
variable {τ σ ρ : MS} {k j : Nat} {E : EV} {w : B64} {S T : ST} {t n g : Int} {x y : N6} {c : Int}
theorem equN_cc (h : isC x ∧ isC y) : ¬ equN x y = -1 := by
  unfold equN
  by_cases e : jV x = jV y
  · rw [if_pos ⟨h, e⟩]; decide
  · have ap : apaN x y := by
      left
      intro z
      have h1 : jM x = 0#64 := h.1
      have h2 : jM y = 0#64 := h.2
      rw [h1, h2, show ~~~ (0#64) = BitVec.allOnes 64 by decide, BitVec.and_allOnes, BitVec.and_allOnes] at z
      exact e (BitVec.xor_eq_zero_iff.1 z)
    rw [if_neg (fun z => e z.2), if_pos ap]; decide
theorem decX_cc (hc : c = 16 ∨ c = 80) (h : isC x ∧ isC y) : ¬ decX c x y = -1 := by
  have q := equN_cc h
  rcases hc with rfl | rfl
  · exact q
  · show ¬ (if equN x y < 0 then equN x y else 1 - equN x y) = -1
    rcases equN_n x y with e | e | e
    · rw [e]; decide
    · rw [e]; decide
    · exact absurd e q
theorem td1_M (n : N6) : jM (td1 n) = jM n := by unfold td1; split <;> rfl
theorem td2_M (n : N6) : jM (td2 n) = jM n := by unfold td2; split <;> rfl
theorem isC_td {n : N6} (h : isC n) : isC (tdN n) := by
  have e : jM (td2 (td1 (byB n))) = 0#64 := by rw [td2_M, td1_M]; exact h
  show jM (tdN n) = 0#64
  unfold tdN
  split
  · show jM (td2 (td1 (byB n))) &&& sprd (jA (td2 (td1 (byB n))) ^^^ jB (td2 (td1 (byB n)))) = 0#64
    rw [e, BitVec.zero_and]
  · exact e
theorem isC_cut {n : N6} (h : isC n) : isC (cutT n) := isC_td (by
  show jM n &&& cF = 0#64
  have h1 : jM n = 0#64 := h
  rw [h1, BitVec.zero_and])
theorem decN_t {p : Prop} {e : Decidable p} (h : p) : decN c (@decide p e) x y = decX c x y := by
  unfold decN
  rw [if_pos (decide_eq_true h)]
theorem decN_f {p : Prop} {e : Decidable p} (h : ¬ p) (s : ¬ isSgn c) : decN c (@decide p e) x y = decX c (cutT x) (cutT y) := by
  unfold decN
  rw [if_neg (fun z => h (of_decide_eq_true z)), if_neg s]
theorem dec64 (h : decX 64 x y = -1) : jV x &&& jV y = 0#64 := by
  apply Classical.byContradiction
  intro z
  have e : decX 64 x y = (if ¬ jV x &&& jV y = 0#64 then 1 else if (jV x ||| jM x) &&& (jV y ||| jM y) = 0#64 then 0 else -1) := rfl
  rw [e, if_pos z] at h
  exact absurd h (by decide)
/-- what is known when both ways are narrowed -/
theorem nrA (hc : isCmp c) (dn : decN c (decide (widJ w)) x y = -1) (o : widJ w ∨ ¬ isSgn c ∧ ¬ cF < jB x ∧ ¬ cF < jB y) (h : c = 16 ∨ c = 80) : ¬ (isC x ∧ isC y) := by
  intro q
  by_cases wd : widJ w
  · rw [decN_t wd] at dn
    exact decX_cc h q dn
  · have s := (o.resolve_left wd).1
    rw [decN_f wd s] at dn
    exact decX_cc h ⟨isC_cut q.1, isC_cut q.2⟩ dn
theorem nrB {is : Bool} (hc : isCmp c) (r : ¬ rgt w) (dn : decN c (decide (widJ w)) x (cstN (immJ w)) = -1) (o : widJ w ∨ ¬ isSgn c ∧ ¬ cF < jB x ∧ ¬ cF < jB (cstN (immJ w))) : (tdG (narN c is x (cstN (immJ w))).1 ∧ tdG (narN c is x (cstN (immJ w))).2) ↔ tdG (narN c is x (cstN (immJ w))).1 := by
  refine nar_G hc ?_
  by_cases wd : widJ w
  · rw [decN_t wd] at dn
    exact Or.inl (nd_w dn)
  · obtain ⟨s, hB, _⟩ := o.resolve_left wd
    rw [BitVec.lt_def, cF_toNat] at hB
    by_cases hA : (jA x).toNat < 4294967296
    · left
      rw [decN_f wd s] at dn
      have e : cutT (cstN (immJ w)) = cstN (immJ w) := by
        rw [cutT_cst]
        unfold immJ
        rw [if_neg wd, cF_cF]
      rw [e] at dn
      exact nd_n s hA (by omega) dn
    · exact Or.inr ⟨by omega, s⟩
theorem nrC (hx : lowA x) (dn : decN 64 (decide (widJ w)) x y = -1) (o : widJ w ∨ ¬ isSgn (64 : Int) ∧ ¬ cF < jB x ∧ ¬ cF < jB y) : (tdG (cl64 x y) ↔ tdG (pu64 x y)) ∧ (tdG (pu64 x y) → tdN (cl64 x y) = tdN (pu64 x y)) := by
  refine cl_pu ?_
  by_cases wd : widJ w
  · rw [decN_t wd] at dn
    exact Or.inl (dec64 dn)
  · obtain ⟨s, hB, _⟩ := o.resolve_left wd
    rw [BitVec.lt_def, cF_toNat] at hB
    rw [decN_f wd s] at dn
    exact dis_n hx (by omega) (dec64 dn)
abbrev gdP (c : Int) (is : Bool) (x y : N6) : Prop := tdG (narN c is x y).1 ∧ tdG (narN c is x y).2
noncomputable def gdI (c : Int) (is : Bool) (x y : N6) : Int := @ite Int (gdP c is x y) (Classical.propDecidable _) 1 0
theorem gdI_1 {is : Bool} (h : gdP c is x y) : gdI c is x y = 1 := if_pos h
theorem gdI_0 {is : Bool} (h : ¬ gdP c is x y) : gdI c is x y = 0 := if_neg h
theorem gdI_n {is : Bool} : (¬ gdI c is x y = 0) = gdP c is x y := by
  apply propext
  by_cases h : gdP c is x y
  · rw [gdI_1 h]
    exact ⟨fun _ => h, fun _ => by decide⟩
  · rw [gdI_0 h]
    exact ⟨fun z => absurd rfl z, fun z => absurd z h⟩
theorem rC_t {k i : Nat} {m : N6} (h : ¬ i = k) : rC (wC σ k m) i = rC σ i := by rw [rC_wC, if_neg h]
theorem rC_u {k : Nat} {m : N6} : rC (wC σ k m) k = m := by rw [rC_wC, if_pos rfl]
theorem no_pu {q : N6} (he : q = if c = 64 ∧ isC y then cl64 x y else (narN c false x y).1) (hC : c = 64 → (tdG (cl64 x y) ↔ tdG (pu64 x y)) ∧ (tdG (pu64 x y) → tdN (cl64 x y) = tdN (pu64 x y))) : (tdG q ↔ tdG (narN c false x y).1) ∧ (tdG (narN c false x y).1 → tdN q = tdN (narN c false x y).1) := by
  subst he
  by_cases h : c = 64 ∧ isC y
  · rw [if_pos h]
    have e : (narN c false x y).1 = pu64 x y := by
      obtain ⟨h1, h2⟩ := h
      subst h1
      show (if isC y ∧ false = true ∧ jV y &&& (jV y - 1#64) = 0#64 then ((jV x ||| jV y, jM x &&& ~~~ jV y, jA x, jB x, jC x, jD x), y) else if isC y ∧ false = false then ((jV x, jM x &&& ~~~ jV y, jA x, jB x, jC x, jD x), y) else (x, y)).1 = pu64 x y
      rw [if_neg (fun z => Bool.noConfusion z.2.1), if_pos ⟨h2, rfl⟩]
      rfl
    rw [e]
    exact hC h.1
  · rw [if_neg h]
    exact ⟨Iff.rfl, fun _ => rfl⟩
theorem T280a {c : Int} (hc : isCmp c) (H : SC σ k j E w) (e42 : rC σ 42 = x) (e43 : rC σ 43 = y) (hA : c = 16 ∨ c = 80 → ¬ (isC x ∧ isC y)) (hB : ¬ rgt w → ∀ is : Bool, gdP c is x y ↔ tdG (narN c is x y).1) (hC : c = 64 → (tdG (cl64 x y) ↔ tdG (pu64 x y)) ∧ (tdG (pu64 x y) → tdN (cl64 x y) = tdN (pu64 x y))) :
    ∃ ρ a b, (MM 280 [mR (some 40), mI c] σ = RR (lkB tb280) (B280_85, [some (mR (some 40)), some (mI c), some (mI (b2 (¬ rgt w))), some (mI a), some (mI b)], [], ρ)) ∧ ((¬ a = 0) = gdP c true x y ∧ (¬ b = 0) = gdP c false x y) ∧ nfq ρ σ ∧ (rC ρ 47 = tdN (narN c true x y).1 ∧ (rgt w → rC ρ 48 = tdN (narN c true x y).2)) ∧ ((gdP c false x y → rC ρ 49 = tdN (narN c false x y).1) ∧ (rgt w → rC ρ 50 = tdN (narN c false x y).2)) := by
  obtain ⟨τ1, t74, ⟨⟨x47, x48⟩, x49, x50⟩, q1⟩ := T274 hc e42 e43 hA
  have N9 := no_pu x49 hC
  have H1 := SC_n q1 H
  have t43 := T243 H1
  have t47 := T73 (σ := τ1) (k := 47) (kc_47 _)
  obtain ⟨τ2, h2⟩ : ∃ τ2, τ2 = wC τ1 47 (tdN (rC τ1 47)) := ⟨_, rfl⟩
  rw [← h2, x47] at t47
  have t49 := T73 (σ := τ2) (k := 49) (kc_49 _)
  have f9 : rC τ2 49 = rC τ1 49 := by rw [h2]; exact rC_t (by decide)
  rw [f9] at t49
  obtain ⟨τ3, h3⟩ : ∃ τ3, τ3 = wC τ2 49 (tdN (rC τ1 49)) := ⟨_, rfl⟩
  rw [← h3] at t49
  have y47 : rC τ3 47 = tdN (narN c true x y).1 := by rw [h3, rC_t (by decide), h2, rC_u, x47]
  have y49 : rC τ3 49 = tdN (rC τ1 49) := by rw [h3, rC_u]
  have y48 : rC τ3 48 = (narN c true x y).2 := by rw [h3, rC_t (by decide), h2, rC_t (by decide), x48]
  have y50 : rC τ3 50 = (narN c false x y).2 := by rw [h3, rC_t (by decide), h2, rC_t (by decide), x50]
  have q3 : nfq τ3 σ := by rw [h3, h2]; exact nfq_t (nfq_w (by omega)) (nfq_t (nfq_w (by omega)) q1)
  have z9 : gdP c false x y → tdN (rC τ1 49) = tdN (narN c false x y).1 := fun z => N9.2 z.1
  clear h2 h3
  by_cases r : rgt w
  · have t48 := T73 (σ := τ3) (k := 48) (kc_48 _)
    rw [y48] at t48
    obtain ⟨τ4, h4⟩ : ∃ τ4, τ4 = wC τ3 48 (tdN (narN c true x y).2) := ⟨_, rfl⟩
    rw [← h4] at t48
    have t50 := T73 (σ := τ4) (k := 50) (kc_50 _)
    have f50 : rC τ4 50 = (narN c false x y).2 := by rw [h4, rC_t (by decide), y50]
    rw [f50] at t50
    obtain ⟨τ5, h5⟩ : ∃ τ5, τ5 = wC τ4 50 (tdN (narN c false x y).2) := ⟨_, rfl⟩
    rw [← h5] at t50
    have q5 : nfq τ5 σ := by rw [h5, h4]; exact nfq_t (nfq_w (by omega)) (nfq_t (nfq_w (by omega)) q3)
    rw [b2_yes r] at t43
    refine ⟨τ5, (gdI c true x y), (gdI c false x y), ?_, ⟨gdI_n, gdI_n⟩, q5, ⟨?_, fun _ => ?_⟩, ⟨fun z => ?_, fun _ => ?_⟩⟩
    · rw [b2_no (p := ¬ rgt w) (not_not_intro r)]
      have s62 : RR (lkB tb280) (B280_50, [some (mR (some 40)), some (mI c), some (mI 0), some (mI (tdB (narN c true x y).1)), some (mI (tdB (rC τ1 49)))], [mI (tdB (narN c true x y).2)], τ4) = RR (lkB tb280) (B280_62, [some (mR (some 40)), some (mI c), some (mI 0), some (mI (tdB (narN c true x y).1)), some (mI (tdB (rC τ1 49)))], [mI ((gdI c true x y))], τ4) := by
        by_cases g2 : tdG (narN c true x y).2
        · by_cases g1 : tdG (narN c true x y).1
          · rw [gdI_1 (c := c) (is := true) (x := x) (y := y) ⟨g1, g2⟩]
            simp only [e280_50, e280_61, Option.getD_some, Option.bind_some, Option.toList_some, Option.toList_none, List.cons_append, List.nil_append, and_self, and_true, true_and, false_and, and_false, ite_self, not_true_eq_false, not_false_eq_true, reduceIte, Nat.reduceEqDiff, ab_I, ab_L, ab_R, ao_I, ao_L, ao_R, gL_sL, gI_sI, gR_sR, gI_sL, gI_sR, gL_sI, gL_sR, gR_sI, gR_sL, tdB_0, eq_true g1, eq_true g2]
          · rw [gdI_0 (c := c) (is := true) (x := x) (y := y) (fun z => g1 z.1)]
            simp only [e280_50, e280_61, Option.getD_some, Option.bind_some, Option.toList_some, Option.toList_none, List.cons_append, List.nil_append, and_self, and_true, true_and, false_and, and_false, ite_self, not_true_eq_false, not_false_eq_true, reduceIte, Nat.reduceEqDiff, ab_I, ab_L, ab_R, ao_I, ao_L, ao_R, gL_sL, gI_sI, gR_sR, gI_sL, gI_sR, gL_sI, gL_sR, gR_sI, gR_sL, tdB_0, eq_false g1, eq_true g2]
        · rw [gdI_0 (c := c) (is := true) (x := x) (y := y) (fun z => g2 z.2)]
          simp only [e280_50, e280_61, Option.getD_some, Option.bind_some, Option.toList_some, Option.toList_none, List.cons_append, List.nil_append, and_self, and_true, true_and, false_and, and_false, ite_self, not_true_eq_false, not_false_eq_true, reduceIte, Nat.reduceEqDiff, ab_I, ab_L, ab_R, ao_I, ao_L, ao_R, gL_sL, gI_sI, gR_sR, gI_sL, gI_sR, gL_sI, gL_sR, gR_sI, gR_sL, tdB_0, eq_false g2]
      have s83 : ∀ u : Int, RR (lkB tb280) (B280_70, [some (mR (some 40)), some (mI c), some (mI 0), some (mI u), some (mI (tdB (rC τ1 49)))], [mI (tdB (narN c false x y).2)], τ5) = RR (lkB tb280) (B280_83, [some (mR (some 40)), some (mI c), some (mI 0), some (mI u), some (mI (tdB (rC τ1 49)))], [mI ((gdI c false x y))], τ5) := by
        intro u
        by_cases g2 : tdG (narN c false x y).2
        · by_cases g1 : tdG (narN c false x y).1
          · have g1' : tdG (rC τ1 49) := N9.1.2 g1
            rw [gdI_1 (c := c) (is := false) (x := x) (y := y) ⟨g1, g2⟩]
            simp only [e280_70, e280_82, Option.getD_some, Option.bind_some, Option.toList_some, Option.toList_none, List.cons_append, List.nil_append, and_self, and_true, true_and, false_and, and_false, ite_self, not_true_eq_false, not_false_eq_true, reduceIte, Nat.reduceEqDiff, ab_I, ab_L, ab_R, ao_I, ao_L, ao_R, gL_sL, gI_sI, gR_sR, gI_sL, gI_sR, gL_sI, gL_sR, gR_sI, gR_sL, tdB_0, eq_true g1', eq_true g2]
          · have g1' : ¬ tdG (rC τ1 49) := fun z => g1 (N9.1.1 z)
            rw [gdI_0 (c := c) (is := false) (x := x) (y := y) (fun z => g1 z.1)]
            simp only [e280_70, e280_82, Option.getD_some, Option.bind_some, Option.toList_some, Option.toList_none, List.cons_append, List.nil_append, and_self, and_true, true_and, false_and, and_false, ite_self, not_true_eq_false, not_false_eq_true, reduceIte, Nat.reduceEqDiff, ab_I, ab_L, ab_R, ao_I, ao_L, ao_R, gL_sL, gI_sI, gR_sR, gI_sL, gI_sR, gL_sI, gL_sR, gR_sI, gR_sL, tdB_0, eq_false g1', eq_true g2]
        · rw [gdI_0 (c := c) (is := false) (x := x) (y := y) (fun z => g2 z.2)]
          simp only [e280_70, e280_82, Option.getD_some, Option.bind_some, Option.toList_some, Option.toList_none, List.cons_append, List.nil_append, and_self, and_true, true_and, false_and, and_false, ite_self, not_true_eq_false, not_false_eq_true, reduceIte, Nat.reduceEqDiff, ab_I, ab_L, ab_R, ao_I, ao_L, ao_R, gL_sL, gI_sI, gR_sR, gI_sL, gI_sR, gL_sI, gL_sR, gR_sI, gR_sL, tdB_0, eq_false g2]
      simp only [M280, e280_0, e280_6, e280_9, e280_13, e280_21, e280_29, e280_37, e280_62, e280_83, Option.getD_some, Option.bind_some, Option.toList_some, Option.toList_none, List.cons_append, List.nil_append, and_self, and_true, true_and, false_and, and_false, ite_self, not_true_eq_false, not_false_eq_true, reduceIte, Nat.reduceEqDiff, ab_I, ab_L, ab_R, ao_I, ao_L, ao_R, gL_sL, gI_sI, gR_sR, gI_sL, gI_sR, gL_sI, gL_sR, gR_sI, gR_sL, T266, t74, t43, oneI, t47, t49, t48, s62, t50, s83]
    · rw [h5, rC_t (by decide), h4, rC_t (by decide), y47]
    · rw [h5, rC_t (by decide), h4, rC_u]
    · rw [h5, rC_t (by decide), h4, rC_t (by decide), y49]
      exact z9 z
    · rw [h5, rC_u]
  · rw [b2_no r] at t43
    refine ⟨τ3, tdB (narN c true x y).1, tdB (rC τ1 49), ?_, ⟨?_, ?_⟩, q3, ⟨y47, fun z => absurd z r⟩, ⟨fun z => ?_, fun z => absurd z r⟩⟩
    · rw [b2_yes (p := ¬ rgt w) r]
      simp only [M280, e280_0, e280_6, e280_9, e280_13, e280_21, e280_29, e280_37, Option.getD_some, Option.bind_some, Option.toList_some, Option.toList_none, List.cons_append, List.nil_append, and_self, and_true, true_and, false_and, and_false, ite_self, not_true_eq_false, not_false_eq_true, reduceIte, Nat.reduceEqDiff, ab_I, ab_L, ab_R, ao_I, ao_L, ao_R, gL_sL, gI_sI, gR_sR, gI_sL, gI_sR, gL_sI, gL_sR, gR_sI, gR_sL, T266, t74, t43, oneI, t47, t49]
    · rw [tdB_n]
      exact propext (hB r true).symm
    · rw [tdB_n]
      exact propext (N9.1.trans (hB r false).symm)
    · rw [y49]
      exact z9 z
theorem CSt_f {S : ST} (h : CSt σ k S) : gI σ k 3 = (sF S : Int) := h.1.1
theorem nrw_v {is : Bool} {p q : N6} {fx : Int} (hf : (fx = 0) = rgt w) (e1 : p = tdN (narN c is x y).1) (e2 : rgt w → q = tdN (narN c is x y).2) : (if fx = 0 then wV (wV S (dR w) (numV p)) (sRr w) (numV q) else wV S (dR w) (numV p)) = nrwS S w c is x y := by
  unfold nrwS
  by_cases r : rgt w
  · rw [if_pos (hf.symm ▸ r : fx = 0), if_pos r, e1, e2 r]
  · rw [if_neg (hf.symm ▸ r : ¬ fx = 0), if_neg r, e1]
theorem T280 (H : SC σ k j E w) (hS : CSt σ k S) (P : PX S E t) (ht : gI σ 40 8 = t) (h4 : gI σ 40 4 = n) (h5 : gI σ 40 5 = g) (h3 : gI σ 40 3 = 0) (hl : ak σ 2 (gR σ k 6)) (hd : fD w ≤ 9) (hs : rgt w → fS w ≤ 9) (hc : isCmp (fC w)) (e42 : rC σ 42 = vn (rgV S (dR w))) (e43 : rC σ 43 = sdN S w) (hx : lowA (vn (rgV S (dR w))))
    (dn : decN (fC w) (decide (widJ w)) (vn (rgV S (dR w))) (sdN S w) = -1) (np : ¬ ptC S w (vn (rgV S (dR w))) (sdN S w)) : okc (MM 280 [mR (some 40), mI (fC w)] σ) none (fun τ => spj σ τ k j (numJ S w g n t)) := by
  have F := PX_F P
  have dd := H.1.2.1
  have o : widJ w ∨ ¬ isSgn (fC w) ∧ ¬ cF < jB (vn (rgV S (dR w))) ∧ ¬ cF < jB (sdN S w) := Classical.byContradiction fun z => np (Or.inr z)
  obtain ⟨x, hx'⟩ : ∃ x, x = vn (rgV S (dR w)) := ⟨_, rfl⟩
  obtain ⟨y, hy'⟩ : ∃ y, y = sdN S w := ⟨_, rfl⟩
  have nJ : numJ S w g n t = (@ite _ (gdP (fC w) true x y) (Classical.propDecidable _)
    (@ite _ (gdP (fC w) false x y) (Classical.propDecidable _)
      (0, some (n, nrwS S w (fC w) false x y), some (g, nrwS S w (fC w) true x y), t)
      (0, some (g, nrwS S w (fC w) true x y), none, t))
    (@ite _ (gdP (fC w) false x y) (Classical.propDecidable _)
      (0, some (n, nrwS S w (fC w) false x y), none, t)
      (0, none, none, t))) := by
    rw [hx', hy']
    unfold numJ
    rw [if_neg (show ¬ decN (fC w) (decide (widJ w)) (vn (rgV S (dR w))) (vn (sidJ S w)) = 1 by rw [dn]; decide), if_neg (show ¬ decN (fC w) (decide (widJ w)) (vn (rgV S (dR w))) (vn (sidJ S w)) = 0 by rw [dn]; decide), if_neg np]
  rw [nJ]
  rw [← hx'] at e42 hx dn o
  rw [← hy'] at e43 dn o
  have hB : ¬ rgt w → ∀ is : Bool, gdP (fC w) is x y ↔ tdG (narN (fC w) is x y).1 := fun r is => by
    have e : y = cstN (immJ w) := by
      rw [hy']
      show vn (sidJ S w) = _
      rw [sd_i r]
      rfl
    rw [e] at dn o ⊢
    exact nrB hc r dn o
  have hC : fC w = 64 → (tdG (cl64 x y) ↔ tdG (pu64 x y)) ∧ (tdG (pu64 x y) → tdN (cl64 x y) = tdN (pu64 x y)) := fun e => by
    rw [e] at dn o
    exact nrC hx dn o
  obtain ⟨ρ, a, b, s85, ⟨ea, eb⟩, q, ⟨r47, r48⟩, r49, r50⟩ := T280a hc H e42 e43 (fun z => nrA hc dn o z) hB hC
  clear nJ hB hC dn o np hx e42 e43
  have H1 := SC_n q H
  have S1 := CSt_n (sc_c H) q hS
  have l1 : ak ρ 2 (gR ρ k 6) := by
    rw [gR_r q.2.2]
    intro z
    have := hl z
    rwa [kd_r q.2.2]
  have fx0 : (b2 (¬ rgt w) = 0) = rgt w := by rw [b2_0', Classical.not_not]
  have g8 : gI ρ 40 8 = t := (q.1 _ _).trans ht
  have g4 : gI ρ 40 4 = n := (q.1 _ _).trans h4
  have g5 : gI ρ 40 5 = g := (q.1 _ _).trans h5
  have g3 : gI ρ 40 3 = 0 := (q.1 _ _).trans h3
  rw [s85]
  clear s85
  generalize hfx : b2 (¬ rgt w) = fx at *
  have hs0 : fx = 0 → fS w ≤ 9 := fun z => hs (fx0 ▸ z)
  by_cases gy : gdP (fC w) true x y
  · have na : ¬ a = 0 := ea ▸ gy
    by_cases gn : gdP (fC w) false x y
    · have nb : ¬ b = 0 := eb ▸ gn
      rw [if_pos gy, if_pos gn]
      obtain ⟨ρ1, t63, p⟩ := T263 H1 S1 P l1
      have H2 := SC_q p.1.1 H1
      have m47 : ∀ i, 41 ≤ i → i ≤ 50 → rC ρ1 i = rC ρ i := fun i h1 h2 => by
        have e : ∀ s, gL ρ1 i s = gL ρ i s := fun s => p.2.2.2 i s h1 h2
        unfold rC
        rw [e, e, e, e, e, e]
      obtain ⟨τ1, u1, c1, k1⟩ := T281 (p := 47) (q := 48) (fx := fx) H2 (CSt_f p.1.2.1) (Or.inr rfl) p.1.2.2 F hd hs0 (kc_47 _) (kc_48 _) (by omega) (by omega)
      have H3 := SC_q (sfq_j dd (csq_c k1)) H2
      have cS : CSt τ1 k S := CSt_s (k := j) (j := k) (by omega) (csq_c k1) p.1.2.1
      obtain ⟨τ2, u2, c2, k2⟩ := T281 (p := 49) (q := 50) (fx := fx) H3 (CSt_f cS) (Or.inl rfl) cS F hd hs0 (kc_49 _) (kc_50 _) (by omega) (by omega)
      have n1 : ∀ i, 42 ≤ i → i ≤ 50 → rC τ1 i = rC ρ1 i := fun i h1 h2 => by
        have e : ∀ s, gL τ1 i s = gL ρ1 i s := fun s => k1.2.1 _ _ (by have := H.1.2.2.2; omega)
        unfold rC
        rw [e, e, e, e, e, e]
      rw [nrw_v (x := x) (y := y) (c := fC w) (is := true) fx0 (by rw [m47 47 (by omega) (by omega), r47]) (fun z => by rw [m47 48 (by omega) (by omega), r48 z])] at c1
      rw [nrw_v (x := x) (y := y) (c := fC w) (is := false) fx0 (by rw [n1 49 (by omega) (by omega), m47 49 (by omega) (by omega), r49 gn]) (fun z => by rw [n1 50 (by omega) (by omega), m47 50 (by omega) (by omega), r50 z])] at c2
      refine okc_o (τ := τ2) ?_ ⟨sfq_t (sfq_c k2) (sfq_t (sfq_j dd (csq_c k1)) (sfq_t p.1.1 (sfq_n q))), fun _ => ⟨?_, ⟨c2, ?_⟩, ⟨?_, ?_, CSt_s dd (csq_c k2) c1⟩, ?_, ?_⟩⟩
      · simp only [e280_85, e280_98, e280_115, e280_132, Option.getD_some, Option.bind_some, Option.toList_some, Option.toList_none, List.cons_append, List.nil_append, and_self, and_true, true_and, false_and, and_false, ite_self, not_true_eq_false, not_false_eq_true, reduceIte, Nat.reduceEqDiff, ab_I, ab_L, ab_R, ao_I, ao_L, ao_R, gL_sL, gI_sI, gR_sR, gI_sL, gI_sR, gL_sI, gL_sR, gR_sI, gR_sL, eq_false na, eq_false nb, t63, sc_o H2, u1, sc_h H3, u2]
      · rw [k2.1, k1.1, p.2.1.2.2.2]; exact g8
      · rw [k2.1, k1.1, p.2.1.2.1]; exact g4
      · rw [k2.1, k1.1, p.2.1.1]
      · rw [k2.1, k1.1, p.2.1.2.2.1]; exact g5
      · rw [k2.1, k1.1, p.2.2.1.1, q.1]
      · rw [gR_r k2.2.2, gR_r k1.2.2, p.2.2.1.2, gR_r q.2.2]
    · have nb : b = 0 := Classical.byContradiction fun z => gn (eb ▸ z)
      rw [if_pos gy, if_neg gn]
      have qi : sfq (sI ρ 40 4 (gI ρ 40 5)) ρ k j := sfq_i (by omega)
      have H2 := SC_q qi H1
      have S2 : CSt (sI ρ 40 4 (gI ρ 40 5)) k S := CSt_i (sc_c H) S1
      obtain ⟨τ1, u1, c1, k1⟩ := T281 (p := 47) (q := 48) (fx := fx) H2 (CSt_f S2) (Or.inl rfl) S2 F hd hs0 (kc_47 _) (kc_48 _) (by omega) (by omega)
      rw [show rC (sI ρ 40 4 (gI ρ 40 5)) 47 = rC ρ 47 from rfl, show rC (sI ρ 40 4 (gI ρ 40 5)) 48 = rC ρ 48 from rfl, nrw_v (x := x) (y := y) (c := fC w) (is := true) fx0 r47 r48] at c1
      refine okc_o (τ := τ1) ?_ ⟨sfq_t (sfq_c k1) (sfq_t qi (sfq_n q)), fun _ => ⟨?_, c1, ?_, ?_⟩⟩
      · simp only [e280_85, e280_135, e280_164, Option.getD_some, Option.bind_some, Option.toList_some, Option.toList_none, List.cons_append, List.nil_append, and_self, and_true, true_and, false_and, and_false, ite_self, not_true_eq_false, not_false_eq_true, reduceIte, Nat.reduceEqDiff, ab_I, ab_L, ab_R, ao_I, ao_L, ao_R, gL_sL, gI_sI, gR_sR, gI_sL, gI_sR, gL_sI, gL_sR, gR_sI, gR_sL, eq_false na, eq_true nb, sc_h H1, u1]
      · rw [k1.1, gI_sI, if_neg (by omega)]; exact g8
      · rw [k1.1, gI_sI, if_pos ⟨rfl, rfl⟩]; exact g5
      · rw [k1.1, gI_sI, if_neg (by omega)]; exact g3
  · have na : a = 0 := Classical.byContradiction fun z => gy (ea ▸ z)
    by_cases gn : gdP (fC w) false x y
    · have nb : ¬ b = 0 := eb ▸ gn
      rw [if_neg gy, if_pos gn]
      obtain ⟨τ1, u1, c1, k1⟩ := T281 (p := 49) (q := 50) (fx := fx) H1 (CSt_f S1) (Or.inl rfl) S1 F hd hs0 (kc_49 _) (kc_50 _) (by omega) (by omega)
      rw [nrw_v (x := x) (y := y) (c := fC w) (is := false) fx0 (r49 gn) r50] at c1
      refine okc_o (τ := τ1) ?_ ⟨sfq_t (sfq_c k1) (sfq_n q), fun _ => ⟨?_, c1, ?_, ?_⟩⟩
      · simp only [e280_85, e280_135, e280_189, Option.getD_some, Option.bind_some, Option.toList_some, Option.toList_none, List.cons_append, List.nil_append, and_self, and_true, true_and, false_and, and_false, ite_self, not_true_eq_false, not_false_eq_true, reduceIte, Nat.reduceEqDiff, ab_I, ab_L, ab_R, ao_I, ao_L, ao_R, gL_sL, gI_sI, gR_sR, gI_sL, gI_sR, gL_sI, gL_sR, gR_sI, gR_sL, eq_true na, eq_false nb, sc_h H1, u1]
      · rw [k1.1]; exact g8
      · rw [k1.1]; exact g4
      · rw [k1.1]; exact g3
    · have nb : b = 0 := Classical.byContradiction fun z => gn (eb ▸ z)
      rw [if_neg gy, if_neg gn]
      have sc := sc_c H
      refine okc_o (τ := sI ρ 40 4 (-1)) ?_ ⟨sfq_t (sfq_i (by omega)) (sfq_n q), fun _ => ⟨?_, ?_, ?_, ?_⟩⟩
      · simp only [e280_85, e280_135, Option.getD_some, Option.bind_some, Option.toList_some, Option.toList_none, List.cons_append, List.nil_append, and_self, and_true, true_and, false_and, and_false, ite_self, not_true_eq_false, not_false_eq_true, reduceIte, Nat.reduceEqDiff, ab_I, ab_L, ab_R, ao_I, ao_L, ao_R, gL_sL, gI_sI, gR_sR, gI_sL, gI_sR, gL_sI, gL_sR, gR_sI, gR_sL, eq_true na, eq_true nb]
      · rw [gI_sI, if_neg (by omega)]; exact g8
      · rw [gI_sI, if_pos ⟨rfl, rfl⟩]
      · rw [gI_sI, if_neg (by omega)]; exact g3
      · rw [gI_sI, if_neg (by omega)]; exact q.1 _ _
end CGN
