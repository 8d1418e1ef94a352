/-! ===== the class's plain code: comparisons ===== -/
section CWCM
variable {σ τ ρ υ ω : MS} {w w2 X Y v : B64} {m n f i j s t N K P Q d e x' o : Nat} {a x y p q : Int} {g : Nat → B64} {c c' : TC WR} {φ ψ : Nat → Nat} {st : Nat → Int} {L : List Q4} {u : SV} {fl : Bool} {k : Nat} {b : Bool}
theorem so_v (hc : isCmp q) : soV (cndQ q) (if 160 ≤ q then Y else X) (if 160 ≤ q then X else Y) = cmpB q true X Y := by
  have le : ∀ a b : Int, decide (a ≤ b) = decide (¬ b < a) := fun a b => by
    by_cases z : a ≤ b
    · rw [decide_eq_true z, decide_eq_true (by omega)]
    · rw [decide_eq_false z, decide_eq_false (by omega)]
  rcases hc with z | z | z | z | z | z | z | z | z | z | z
  · rw [z]; rfl
  · rw [z]; rfl
  · rw [z]; rfl
  · rw [z]; rfl
  · rw [z]; rfl
  · rw [z]; rfl
  · rw [z]; exact le _ _
  · rw [z]; rfl
  · rw [z]; rfl
  · rw [z]; rfl
  · rw [z]; exact le _ _
theorem cm_32 (hc : isCmp q) : cmpB q true (@ite _ (sgnQ q) (Classical.propDecidable _) (sxt 32 X) (X &&& cF)) (@ite _ (sgnQ q) (Classical.propDecidable _) (sxt 32 Y) (Y &&& cF)) = cmpB q false (X &&& cF) (Y &&& cF) := by
  have sx : ∀ v : B64, sxt 32 (v &&& cF) = sxt 32 v := fun v => (sxt_eq _ _).mpr (cF_cF v)
  by_cases s : sgnQ q
  · rw [if_pos s, if_pos s]
    rcases s with z | z | z | z
    · simp only [z, cmpB, sx, if_true, if_false, Bool.false_eq_true, Int.reduceEq, reduceIte]
    · simp only [z, cmpB, sx, if_true, if_false, Bool.false_eq_true, Int.reduceEq, reduceIte]
    · simp only [z, cmpB, sx, if_true, if_false, Bool.false_eq_true, Int.reduceEq, reduceIte]
    · simp only [z, cmpB, sx, if_true, if_false, Bool.false_eq_true, Int.reduceEq, reduceIte]
  · rw [if_neg s, if_neg s]
    rcases hc with z | z | z | z | z | z | z | z | z | z | z
    · simp only [z, cmpB, if_true, if_false, Int.reduceEq, reduceIte]
    · simp only [z, cmpB, if_true, if_false, Int.reduceEq, reduceIte]
    · simp only [z, cmpB, if_true, if_false, Int.reduceEq, reduceIte]
    · simp only [z, cmpB, if_true, if_false, Int.reduceEq, reduceIte]
    · simp only [z, cmpB, if_true, if_false, Int.reduceEq, reduceIte]
    · exact absurd (Or.inl z) s
    · exact absurd (Or.inr (Or.inl z)) s
    · simp only [z, cmpB, if_true, if_false, Int.reduceEq, reduceIte]
    · simp only [z, cmpB, if_true, if_false, Int.reduceEq, reduceIte]
    · exact absurd (Or.inr (Or.inr (Or.inl z))) s
    · exact absurd (Or.inr (Or.inr (Or.inr z))) s
/-- what comes before the question -/
noncomputable def preQ (w : B64) : List Q4 := sidL w ++ (if fL w = 6 then [@hafQ 11 (fD w) (sgnQ (fC w)) (Classical.propDecidable _), @hafQ 12 (sidR w) (sgnQ (fC w)) (Classical.propDecidable _)] else [])
theorem pre_v (l56 : fL w = 5 ∨ fL w = 6) (hc : isCmp (fC w)) (hd : fD w ≤ 10) (hs : rgt w → fS w ≤ 10) : (∀ q ∈ preQ w, ropQ q) ∧ (∀ r, r ≤ 10 → runG (preQ w) g r = g r) ∧ ∃ A B : Int, (0 ≤ A ∧ A < 16) ∧ (0 ≤ B ∧ B < 16) ∧ soV (cndQ (fC w)) (runG (preQ w) g (if 160 ≤ fC w then B else A).toNat) (runG (preQ w) g (if 160 ≤ fC w then A else B).toNat) = cmpW (fC w) (decide (widJ w)) (g (dR w)) (sdG g w) ∧ ∀ t, sidL w ++ (if fL w = 6 then [@hafQ 11 (fD w) (sgnQ (fC w)) (Classical.propDecidable _), @hafQ 12 (sidR w) (sgnQ (fC w)) (Classical.propDecidable _), cnqQ (fC w) t 11 12] else [cnqQ (fC w) t (fD w) (sidR w)]) = preQ w ++ [cnqQ (fC w) t A B] := by
  have fr := fld_rng w
  have D : 0 ≤ fD w ∧ fD w < 16 := fr.2.1
  obtain ⟨s1, s2, s3, s4, s5, s6⟩ := sid_v (g := g) hs
  have d10 : dR w ≤ 10 := by show (fD w).toNat ≤ 10; omega
  have d11 : ¬ dR w = 11 := by omega
  have key : ∀ (h : Nat → B64) (A B : Int), soV (cndQ (fC w)) (h (if 160 ≤ fC w then B else A).toNat) (h (if 160 ≤ fC w then A else B).toNat) = cmpB (fC w) true (h A.toNat) (h B.toNat) := fun h A B => by
    rw [← so_v (X := h A.toNat) (Y := h B.toNat) hc]
    by_cases z : 160 ≤ fC w
    · rw [if_pos z, if_pos z, if_pos z, if_pos z]
    · rw [if_neg z, if_neg z, if_neg z, if_neg z]
  unfold preQ
  by_cases l : fL w = 6
  · rw [if_pos l]
    obtain ⟨g1, hg1⟩ : ∃ g1, g1 = runG (sidL w) g := ⟨_, rfl⟩
    obtain ⟨A, hA⟩ : ∃ A, A = @ite _ (sgnQ (fC w)) (Classical.propDecidable _) (sxt 32 (g (dR w))) (g (dR w) &&& cF) := ⟨_, rfl⟩
    obtain ⟨B, hB⟩ : ∃ B, B = @ite _ (sgnQ (fC w)) (Classical.propDecidable _) (sxt 32 (sdG g w)) (sdG g w &&& cF) := ⟨_, rfl⟩
    have y0 : g1 (fD w).toNat = g (dR w) := by rw [hg1]; exact s2 _ d10
    have e1 : stpG g1 (@hafQ 11 (fD w) (sgnQ (fC w)) (Classical.propDecidable _)) = updG g1 11 A := by
      rw [st_haf, y0, ← hA]
      rfl
    have y1 : updG g1 11 A (sidR w).toNat = sdG g w := by rw [ug_n s5, hg1, s3]
    have e2 : stpG (updG g1 11 A) (@hafQ 12 (sidR w) (sgnQ (fC w)) (Classical.propDecidable _)) = updG (updG g1 11 A) 12 B := by
      rw [st_haf, y1, ← hB]
      rfl
    have er : runG (sidL w ++ [@hafQ 11 (fD w) (sgnQ (fC w)) (Classical.propDecidable _), @hafQ 12 (sidR w) (sgnQ (fC w)) (Classical.propDecidable _)]) g = updG (updG g1 11 A) 12 B := by
      rw [runG_a, ← hg1]
      show stpG (stpG g1 _) _ = _
      rw [e1, e2]
    have nw : ¬ widJ w := by
      intro z
      have z : fL w = 5 := z
      omega
    refine ⟨rq_a s1 (rq_c (rop_haf (by decide) D) (rq_c (rop_haf (by decide) s4) rq_n)), fun r hr => ?_, 11, 12, by decide, by decide, ?_, fun t => ?_⟩
    · rw [er, ug_n (by omega), ug_n (by omega), hg1, s2 r hr]
    · rw [er, key]
      have z1 : updG (updG g1 11 A) 12 B (Int.toNat 11) = A := (ug_n (by decide)).trans ug_s
      have z2 : updG (updG g1 11 A) 12 B (Int.toNat 12) = B := ug_s
      rw [z1, z2, hA, hB, cm_32 hc]
      unfold cmpW
      rw [if_neg (by rw [decide_eq_false nw]; decide)]
    · rw [if_pos l, List.append_assoc]
      rfl
  · rw [if_neg l, List.append_nil]
    have l5 : widJ w := by
      show fL w = 5
      omega
    refine ⟨s1, s2, fD w, sidR w, D, s4, ?_, fun t => by rw [if_neg l]⟩
    rw [key, s3, s2 _ d10]
    unfold cmpW
    rw [if_pos (decide_eq_true l5)]
/-- a comparison -/
theorem w1_C (h : RelC σ φ (bm st c)) (W : wdC σ s K N st P L) (l56 : fL w = 5 ∨ fL w = 6) (hc : isCmp (fC w)) (hd : fD w ≤ 10) (hs : rgt w → fS w ≤ 10) (eL : L = sidL w ++ (if fL w = 6 then [@hafQ 11 (fD w) (sgnQ (fC w)) (Classical.propDecidable _), @hafQ 12 (sidR w) (sgnQ (fC w)) (Classical.propDecidable _), cnqQ (fC w) q 11 12] else [cnqQ (fC w) q (fD w) (sidR w)])) (nx : st (cP c + 1).toNat = ((P + L.length : Nat) : Int)) (e : cmT (cP c, cN c, cR c, cS c, cB c, RT (cW c)) w = some b) : ∃ τ, trs L.length σ τ ∧ stq1 st σ τ φ (cP c, cN c, cR c, cS c, cB c, RT (cW c)) 0 (goT (cP c, cN c, cR c, cS c, cB c, RT (cW c)) (if b = true then q else cP c + 1)) := by
  obtain ⟨⟨C, s8, K3⟩, h17, h9, h8, hN, A⟩ := W
  have r1 : RelC (advC σ P true) φ (cP (bm st c), cN c, cR c, cS c, cB (bm st c), RT (cW c)) := ct_C h
  have e1 : cmT (cP (bm st c), cN c, cR c, cS c, cB (bm st c), RT (cW c)) w = some b := e
  have eb := cmX_C r1 e1 hc hd hs
  obtain ⟨p1, p2, x1, x2, X1, X2, p3, p4⟩ := pre_v (w := w) (g := fun r => gL σ 76 r) l56 hc hd hs
  rw [p4] at eL
  have len : L.length = (preQ w).length + 1 := by
    rw [eL, List.length_append]
    rfl
  rw [eL, List.map_append, fin_r _ p1] at A
  obtain ⟨A1, A2⟩ := atC_a _ _ _ A
  obtain ⟨τ1, t1, B⟩ := blk K3 s8 (preQ w) P true σ C h17 h9 h8 (by omega) A1 p1
  have m1 := blk_mv B
  obtain ⟨b1, b2, b3, b4, b5, b6⟩ := B
  obtain ⟨fl, hfl⟩ : ∃ fl, fl = (if (preQ w).length = 0 then true else false) := ⟨_, rfl⟩
  rw [← hfl] at A2
  have ob := cndQ_r (c := fC w)
  have ob2 : 20 ≤ cndQ (fC w) ∧ cndQ (fC w) < 27 := by
    unfold cndQ
    repeat' split
    all_goals omega
  have ef : finQ st (cnqQ (fC w) q x1 x2) = (cndQ (fC w), st q.toNat, if 160 ≤ fC w then x2 else x1, if 160 ≤ fC w then x1 else x2) := by
    unfold finQ
    have z : 131072 ≤ (cnqQ (fC w) q x1 x2).1 := by show 131072 ≤ cndQ (fC w) + 131072; omega
    rw [if_pos z]
    show (cndQ (fC w) + 131072 - 131072, _, _, _) = _
    rw [Int.add_sub_cancel]
    rfl
  rw [List.map_cons, ef] at A2
  have C1 := cdC_m m1 (b1 _ _ (by omega)) C
  have hB : 0 ≤ (if 160 ≤ fC w then x2 else x1) ∧ (if 160 ≤ fC w then x2 else x1) < 16 := by
    split
    · exact X2
    · exact X1
  have hC : 0 ≤ (if 160 ≤ fC w then x1 else x2) ∧ (if 160 ≤ fC w then x1 else x2) < 16 := by
    split
    · exact X1
    · exact X2
  have t2 := T128c C1 b2 (by omega) (opC_g (fun z => b1 K z (fun e => by omega)) A2.1) ob2 hB hC
  rw [b3, b3, p3] at t2
  have e0 : gL (advC σ P true) 76 (dR w) = gL σ 76 (dR w) := adv_L (fun z => absurd z.1 (by decide))
  have es : sdC (advC σ P true) w = sdG (fun r => gL σ 76 r) w := by
    unfold sdC sdG
    by_cases z : rgt w
    · rw [if_pos z, if_pos z]
      exact adv_L (fun z => absurd z.1 (by decide))
    · rw [if_neg z, if_neg z]
  rw [e0, es] at eb
  rw [eb] at t2
  have g17 : ¬ gI τ1 17 s = 0 := by
    rw [b1 17 s (by omega)]
    exact h17
  have g9 : gI τ1 71 9 = 0 := (b1 _ _ (by omega)).trans h9
  have u2 := trs_1 C1 g17 g9 t2
  have r2 : RelC (advC τ1 (P + (preQ w).length) fl) φ (cP (bm st c), cN c, cR c, cS c, cB (bm st c), RT (cW c)) := RelC_e r1 (fun k z y => by rw [adv_I y, adv_I y, b1 k z y]) (fun r hr => by
    rw [adv_L (fun z => absurd z.1 (by decide)), adv_L (fun z => absurd z.1 (by decide)), b3 r, p2 r hr]) (fun k z y => by
    by_cases q : k = 71 ∧ z = 16
    · rw [q.1, q.2, adv_16, adv_16, b5, if_pos rfl, hfl]
      cases preQ w with
      | nil =>
        show gL σ 71 16 + 0#64 + 1#64 = _
        rw [BitVec.add_zero]
      | cons a l =>
        show gL σ 71 16 + 1#64 + (if (if (a :: l).length = 0 then true else false) = true then 1#64 else 0#64) = _
        exact BitVec.add_zero _
    · rw [adv_L q, adv_L q, b4 k z y q])
  have a9 : gI (advC τ1 (P + (preQ w).length) fl) 71 9 = 0 := (adv_I (by omega)).trans g9
  refine ⟨_, by rw [len]; exact trs_t _ t1 u2, ?_⟩
  cases b
  · rw [if_neg (by decide), if_neg (by decide)]
    refine ⟨mvC_t m1 adv_mv, Or.inl ⟨rfl, bm_R (p := 0) (RelC_g r2), ?_, a9⟩⟩
    show gI _ 71 8 = st (cP c + 1).toNat
    rw [nx, adv_8, len]
    rfl
  · rw [if_pos rfl, if_pos rfl]
    refine ⟨mvC_t m1 (mvC_t adv_mv (mvC_I (by omega))), Or.inl ⟨rfl, bm_R (p := 0) (RelC_g (RelC_i r2)), ?_, ?_⟩⟩
    · rw [gI_sI, if_pos ⟨rfl, rfl⟩]
      rfl
    · rw [gI_sI, if_neg (by omega)]
      exact a9
end CWCM
