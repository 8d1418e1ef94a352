/-! ===== the class's plain code: words of numbers ===== -/
section CALW
variable {σ τ ρ υ ω : MS} {w w2 X Y u v : B64} {m n f i j s t N K P Q d e : Nat} {a b c o x y : Int} {g h : Nat → B64}
theorem ops_w (hc : okC c o) (c1 : ¬ c = 128) (c2 : ¬ c = 176) : opsV (opQ c o) X Y = reckA c o true X Y := by
  unfold reckA
  rw [if_neg c1, if_neg c2]
  rcases hc.1 with z | z | z | z | z | z | z | z | z | z | z | z | z
  · rw [z]; rfl
  · rw [z]; rfl
  · rw [z]; rfl
  · rcases hc.2.1 (Or.inl z) with y | y
    · rw [z, y]; rfl
    · rw [z, y]; rfl
  · rw [z]; rfl
  · rw [z]; rfl
  · rw [z]; rfl
  · rw [z]; rfl
  · exact absurd z c1
  · rcases hc.2.1 (Or.inr z) with y | y
    · rw [z, y]; rfl
    · rw [z, y]; rfl
  · rw [z]; rfl
  · exact absurd z c2
  · rw [z]; rfl
theorem ord_v (c208 : fC w = 208) (ho : okAlu w) : resQ (ordQ w) g (dR w) (trnJ (decide (fOp w = 212)) (fI w).toNat (g (dR w))) := by
  have fr := fld_rng w
  have q := ho.2
  rw [if_pos c208] at q
  have D : 0 ≤ fD w ∧ fD w < 16 := fr.2.1
  have d9 := ho.1.1
  have d11 : ¬ dR w = 11 := by show ¬ (fD w).toNat = 11; omega
  have I := q.2.2.2
  unfold ordQ trnJ
  by_cases o : fOp w = 212
  · rw [if_pos o, decide_eq_true o, if_pos rfl]
    rcases I with z | z | z
    · rw [if_pos z, z]
      have e : runG [setQ 11 65535, (10, fD w, fD w, 11)] g = updG (updG g 11 (iL 65535)) (dR w) (g (dR w) &&& iL 65535) := by
        have e1 : stpG g (setQ 11 65535) = updG g 11 (iL 65535) := st_set (by decide) (by decide)
        have y1 : updG g 11 (iL 65535) (fD w).toNat = g (dR w) := ug_n d11
        have y2 : updG g 11 (iL 65535) (Int.toNat 11) = iL 65535 := ug_s
        show stpG (stpG g (setQ 11 65535)) (10, fD w, fD w, 11) = _
        rw [e1, st_ops (by decide) (by decide), y1, y2]
        rfl
      refine ⟨rq_c (rop_set (by decide)) (rq_c (rop_ops (by decide) (by decide) D D (by decide)) rq_n), ?_, fun r hr hn => ?_⟩
      · rw [e, ug_s]
        rfl
      · rw [e, ug_n hn, ug_n (by omega)]
    · rw [if_neg (by omega), if_pos z, z]
      refine ⟨rq_c (rop_1 (Or.inr rfl) D D) rq_n, ?_, fun r hr hn => ?_⟩
      · show stpG g (15, fD w, fD w, 0) (dR w) = _
        rw [st_cut]
        show updG g (dR w) (g (dR w) &&& cF) (dR w) = _
        rw [ug_s]
        rfl
      · show stpG g (15, fD w, fD w, 0) r = _
        rw [st_cut]
        exact ug_n hn
    · rw [if_neg (by omega), if_neg (by omega), z]
      refine ⟨rq_c (rop_1 (Or.inl rfl) D D) rq_n, ?_, fun r hr hn => ?_⟩
      · show stpG g (1, fD w, fD w, 0) (dR w) = _
        rw [st_mov]
        show updG g (dR w) (g (dR w)) (dR w) = _
        rw [ug_s]
        rfl
      · show stpG g (1, fD w, fD w, 0) r = _
        rw [st_mov]
        exact ug_n hn
  · rw [if_neg o, decide_eq_false o, if_neg (by decide)]
    have e8 : ∃ k : Nat, k ≤ 8 ∧ Int.tdiv (fI w) 8 = (k : Int) ∧ (fI w).toNat / 8 = k := by
      rcases I with z | z | z
      · rw [z]; exact ⟨2, by decide, rfl, rfl⟩
      · rw [z]; exact ⟨4, by decide, rfl, rfl⟩
      · rw [z]; exact ⟨8, by decide, rfl, rfl⟩
    obtain ⟨k, k8, e1, e2⟩ := e8
    rw [e1, e2]
    refine ⟨rq_c (rop_rev D D ⟨by omega, by omega⟩) rq_n, ?_, fun r hr hn => ?_⟩
    · show stpG g (17, fD w, fD w, (k : Int)) (dR w) = _
      rw [st_rev]
      show updG g (dR w) (turnB k (g (dR w))) (dR w) = _
      rw [ug_s]
    · show stpG g (17, fD w, fD w, (k : Int)) r = _
      rw [st_rev]
      exact ug_n hn
/-- a word of numbers -/
theorem aluQ_v (l47 : fL w = 4 ∨ fL w = 7) (ho : okAlu w) : resQ (aluQ w) g (dR w) (aluX w (g (dR w)) (if fC w = 208 then 0#64 else sdG g w)) := by
  have fr := fld_rng w
  have D : 0 ≤ fD w ∧ fD w < 16 := fr.2.1
  have d9 := ho.1.1
  have d11 : ¬ dR w = 11 := by show ¬ (fD w).toNat = 11; omega
  have d10 : dR w ≤ 10 := by show (fD w).toNat ≤ 10; omega
  unfold aluQ aluX
  by_cases c208 : fC w = 208
  · rw [if_pos c208, if_pos c208]
    exact ord_v c208 ho
  · rw [if_neg c208, if_neg c208, if_neg c208]
    have hc := okC_of ho c208
    have q := ho.2
    rw [if_neg c208] at q
    by_cases c128 : fC w = 128
    · rw [if_pos c128] at q
      have nr := q.1
      have e : runG [setQ 11 0, (3, fD w, 11, fD w)] g = updG (updG g 11 (iL 0)) (dR w) (iL 0 - g (dR w)) := by
        have e1 : stpG g (setQ 11 0) = updG g 11 (iL 0) := st_set (by decide) (by decide)
        have y1 : updG g 11 (iL 0) (fD w).toNat = g (dR w) := ug_n d11
        have y2 : updG g 11 (iL 0) (Int.toNat 11) = iL 0 := ug_s
        show stpG (stpG g (setQ 11 0)) (3, fD w, 11, fD w) = _
        rw [e1, st_ops (by decide) (by decide), y1, y2]
        rfl
      have R : resQ [setQ 11 0, (3, fD w, 11, fD w)] g (dR w) (0#64 - g (dR w)) := by
        refine ⟨rq_c (rop_set (by decide)) (rq_c (rop_ops (by decide) (by decide) D (by decide) D) rq_n), ?_, fun r hr hn => ?_⟩
        · rw [e, ug_s]
          rfl
        · rw [e, ug_n hn, ug_n (by omega)]
      rw [if_pos c128]
      have := rs_cut d9 R
      have ev : (if fL w = 7 then 0#64 - g (dR w) else (0#64 - g (dR w)) &&& cF) = (if wid w then reckA (fC w) (fO w) true (g (dR w)) (sdG g w) else reckA (fC w) (fO w) false (g (dR w) &&& cF) (sdG g w &&& cF) &&& cF) := by
        unfold reckA
        rw [if_pos c128, if_pos c128]
        by_cases l : fL w = 7
        · rw [if_pos l, if_pos l, BitVec.zero_sub]
        · rw [if_neg l, if_neg l]
          exact cut_neg.symm
      rw [← ev]
      exact this
    · rw [if_neg c128] at q
      obtain ⟨q1, q2, q3, q4⟩ := q
      have hs : rgt w → fS w ≤ 10 := fun r => by
        rw [if_pos r] at q1
        exact q1.1
      rw [if_neg c128]
      by_cases c176 : fC w = 176
      · rw [if_pos c176]
        have c48 : ¬ isQuo (fC w) := by
          rw [c176]
          intro z
          rcases z with z | z <;> exact absurd z (by decide)
        have R : resQ (sidL w ++ [(if fO w = 0 then 1 else 16, fD w, sidR w, fO w)]) g (dR w) (if fO w = 0 then sdG g w else sxt (fO w).toNat (sdG g w)) := by
          have B := (sid_v (g := g) hs).2.2.2.1
          by_cases z : fO w = 0
          · rw [if_pos z, if_pos z, z]
            exact rs_sid (F := fun _ y => y) d9 hs (rop_1 (Or.inl rfl) D B) (fun h => rfl)
          · rw [if_neg z, if_neg z]
            have oc : 1 ≤ fO w ∧ fO w < 64 := by
              rcases q2 with y | y | y
              · exact absurd y z
              · exact absurd y.1 c48
              · rcases y.2 with y | y | y
                · omega
                · omega
                · have := y.2
                  omega
            exact rs_sid (F := fun _ y => sxt (fO w).toNat y) d9 hs (rop_sxt D B oc) (fun h => rfl)
        have ev : (if fL w = 7 then (if fO w = 0 then sdG g w else sxt (fO w).toNat (sdG g w)) else (if fO w = 0 then sdG g w else sxt (fO w).toNat (sdG g w)) &&& cF) = (if wid w then reckA (fC w) (fO w) true (g (dR w)) (sdG g w) else reckA (fC w) (fO w) false (g (dR w) &&& cF) (sdG g w &&& cF) &&& cF) := by
          unfold reckA
          rw [if_neg c128, if_neg c128, if_pos c176, if_pos c176]
          by_cases l : fL w = 7
          · rw [if_pos l, if_pos l]
          · rw [if_neg l, if_neg l]
            by_cases z : fO w = 0
            · rw [if_pos z, if_pos z, cF_cF]
            · rw [if_neg z, if_neg z]
              have oc : (fO w).toNat = 8 ∨ (fO w).toNat = 16 := by
                rcases q2 with y | y | y
                · exact absurd y z
                · exact absurd y.1 c48
                · rcases y.2 with y | y | y
                  · left; rw [y]; rfl
                  · right; rw [y]; rfl
                  · exact absurd y.1 l
              rw [cut_sxt oc]
        rw [← ev]
        exact rs_cut d9 R
      · rw [if_neg c176]
        by_cases l : fL w = 7
        · rw [if_pos l]
          have B := (sid_v (g := g) hs).2.2.2.1
          have ob := opQ_b (c := fC w) (o := fO w)
          have R := rs_sid (g := g) (q := (opQ (fC w) (fO w), fD w, fD w, sidR w)) (F := fun x y => opsV (opQ (fC w) (fO w)) x y) d9 hs (rop_ops ob.1 ob.2 D D B) (fun h => st_ops ob.1 ob.2)
          have := rs_cut d9 R
          rw [if_pos l, if_pos l] at this
          rw [if_pos l, if_pos l, ← ops_w hc c128 c176]
          exact this
        · rw [if_neg l]
          obtain ⟨s1, s2, s3, s4, s5, s6⟩ := sid_v (g := g) hs
          obtain ⟨t1, t2, t3⟩ := hal_v (g := runG (sidL w) g) d9 s4 s5 s6 hc c128 c176
          have R : resQ (sidL w ++ halQ w (sidR w)) g (dR w) (runG (halQ w (sidR w)) (runG (sidL w) g) (dR w)) := by
            refine ⟨rq_a s1 t1, by rw [runG_a], fun r hr hn => ?_⟩
            rw [runG_a, t3 r hr hn, s2 r hr]
          have := rs_cut d9 R
          rw [if_neg l, if_neg l, t2, s2 _ d10, s3] at this
          rw [if_neg l, if_neg l]
          exact this
end CALW
