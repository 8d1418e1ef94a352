/-! ===== the class's operations against the pure ones ===== -/
section COP
variable {x y a b n m : N6} {c off op : Int} {u v : B64}
theorem td_by (h : byB n = byB m) : tdN n = tdN m := by
  unfold tdN
  rw [h]
theorem smax_min (v : B64) : smax cMin v = v := by
  unfold smax
  have h1 : cMin.toInt = -9223372036854775808 := by decide
  have h2 := toInt_rng v
  by_cases h : v.toInt ≤ cMin.toInt
  · rw [if_pos h]
    apply BitVec.eq_of_toInt_eq
    omega
  · rw [if_neg h]
theorem smin_max (v : B64) : smin cMax v = v := by
  unfold smin
  have h1 : cMax.toInt = 9223372036854775807 := by decide
  have h2 := toInt_rng v
  by_cases h : cMax.toInt ≤ v.toInt
  · rw [if_pos h]
    apply BitVec.eq_of_toInt_eq
    omega
  · rw [if_neg h]
theorem cutT_cst (v : B64) : cutT (cstN v) = cstN (v &&& cF) := by
  have e : tdN (cutN (cstN v)) = tdN (cstN (v &&& cF)) := by
    refine td_by ?_
    have c1 : cutN (cstN v) = (v &&& cF, 0#64, v &&& cF, v &&& cF, cMin, cMax) := by
      show (v &&& cF, 0#64 &&& cF, (if v >>> 32 = v >>> 32 then v &&& cF else 0#64), (if v >>> 32 = v >>> 32 then v &&& cF else cF), cMin, cMax) = _
      rw [if_pos rfl, if_pos rfl]
      have : 0#64 &&& cF = 0#64 := by decide
      rw [this]
    rw [c1]
    generalize v &&& cF = d
    have x0 : d ||| 0#64 = d := by simp
    have x1 : ∀ q : B64, 0#64 &&& q = 0#64 := fun q => by simp
    show (d, 0#64, bmax d d, bmin d (d ||| 0#64), smax cMin (d ||| (0#64 &&& cMin)), smin cMax (d ||| (0#64 &&& cMax))) = (d, 0#64, bmax d d, bmin d (d ||| 0#64), smax d (d ||| (0#64 &&& cMin)), smin d (d ||| (0#64 &&& cMax)))
    rw [x1, x1, x0, smax_min, smin_max]
    have sm : smax d d = d := by unfold smax; split <;> rfl
    have sn : smin d d = d := by unfold smin; split <;> rfl
    rw [sm, sn]
  unfold cutT
  rw [e, tdN_cst]
theorem cutT_any : cutT anyN = wideN 4 := by decide +kernel
/-! what is CUT has low bits alone -/
theorem lo_and (v w : B64) (h : v.toNat < 4294967296) : (v &&& w).toNat < 4294967296 := by
  rw [BitVec.toNat_and]
  exact Nat.lt_of_le_of_lt Nat.and_le_left h
theorem lo_or (v w : B64) (h : v.toNat < 4294967296) (h2 : w.toNat < 4294967296) : (v ||| w).toNat < 4294967296 := by
  rw [BitVec.toNat_or]
  exact Nat.or_lt_two_pow (n := 32) h h2
theorem lo_cF (v : B64) : (v &&& cF).toNat < 4294967296 := by
  rw [low32]
  exact Nat.mod_lt _ (by decide)
theorem lo_bmax (v w : B64) (h : v.toNat < 4294967296) (h2 : w.toNat < 4294967296) : (bmax v w).toNat < 4294967296 := by
  rw [bmax_toNat]
  omega
theorem cut_lo (x : N6) : (jV (cutT x)).toNat < 4294967296 := by
  have v0 : (jV (cutN x)).toNat < 4294967296 := lo_cF _
  have m0 : (jM (cutN x)).toNat < 4294967296 := lo_cF _
  have a0 : (jA (cutN x)).toNat < 4294967296 := by
    show (if jA x >>> 32 = jB x >>> 32 then jA x &&& cF else 0#64).toNat < 4294967296
    split
    · exact lo_cF _
    · decide
  have c0 : jC (cutN x) = cMin := rfl
  have d0 : jD (cutN x) = cMax := rfl
  unfold cutT
  generalize cutN x = n at *
  have mm : jM n &&& cMin = 0#64 := by
    apply BitVec.eq_of_toNat_eq
    rw [BitVec.toNat_and]
    have : cMin.toNat = 2 ^ 63 := by decide
    rw [this]
    apply Nat.eq_of_testBit_eq
    intro i
    rw [Nat.testBit_and, Nat.testBit_two_pow]
    by_cases e : i = 63
    · subst e
      have : (jM n).toNat.testBit 63 = false := Nat.testBit_lt_two_pow (Nat.lt_trans m0 (by decide))
      rw [this]
      simp
    · simp
      intro _
      omega
  have b1 : (jA (byB n)).toNat < 4294967296 := lo_bmax _ _ a0 v0
  have b2' : jC (byB n) = jV n := by
    show smax (jC n) (jV n ||| (jM n &&& cMin)) = jV n
    rw [mm, c0, smax_min]
    simp
  have t1 : (jA (td1 (byB n))).toNat < 4294967296 := by
    unfold td1
    split
    · show (bmax (jA (byB n)) (jC (byB n))).toNat < 4294967296
      rw [b2']
      exact lo_bmax _ _ b1 v0
    · exact b1
  have v1 : jV (td1 (byB n)) = jV n := by
    unfold td1
    split <;> rfl
  have t2 : (jA (td2 (td1 (byB n)))).toNat < 4294967296 := by
    unfold td2
    split
    · exact t1
    · exact t1
  have v2 : jV (td2 (td1 (byB n))) = jV n := by
    unfold td2
    split
    · exact v1
    · exact v1
  unfold tdN
  split
  · show (jV (td2 (td1 (byB n))) ||| (jA (td2 (td1 (byB n))) &&& ~~~ sprd (jA (td2 (td1 (byB n))) ^^^ jB (td2 (td1 (byB n)))))).toNat < 4294967296
    rw [v2]
    exact lo_or _ _ v0 (lo_and _ _ t2)
  · rw [v2]
    exact v0
theorem lo_m (h : v.toNat < 4294967296) : v &&& cF = v := by
  apply BitVec.eq_of_toNat_eq
  rw [low32]
  exact Nat.mod_eq_of_lt h
theorem cut_m (x : N6) : jV (cutT x) &&& cF = jV (cutT x) := lo_m (cut_lo x)
theorem cF_cF (v : B64) : v &&& cF &&& cF = v &&& cF := lo_m (lo_cF v)
/-- what makeTold and combine make -/
def clsZ (op off : Int) (a b : N6) : N6 := if tolC op a b ∧ tolQ op off then cstN (tolV op off (jV a) (jV b)) else if tolS op off then anyN else cmbN (op / 16 * 16) off (if op % 8 = 7 then 64 else 32) a b
theorem mul_c (h : isC a ∧ isC b) : mulN a b = cstN (jV a * jV b) := if_pos h
theorem div_c (h : isC a ∧ isC b) : divN a b = cstN (jV a / jV b) := if_pos h
theorem rem_c (h : isC a ∧ isC b) : remN a b = cstN (jV a % jV b) := if_pos h
theorem tolC_n (h : ¬ op / 16 * 16 = 176) : tolC op a b ↔ isC a ∧ isC b := ⟨fun z => ⟨z.1.resolve_right h, z.2⟩, fun z => ⟨Or.inl z.1, z.2⟩⟩
theorem cls_w (h7 : op % 8 = 7) (hc : okO (op / 16 * 16) off) (h0 : ¬ (op / 16 * 16 = 48 ∨ op / 16 * 16 = 144) → off = 0) : tdN (clsZ op off a b) = opN (op / 16 * 16) off a b := by
  have n176 : ¬ op / 16 * 16 = 176 := by
    rcases hc.1 with z | z | z | z | z | z | z | z | z | z | z <;> omega
  have e1 : ∀ d : N6, (if op % 8 = 7 then d else d) = d := fun d => by split <;> rfl
  have tv : ∀ p q : B64, tolV op off p q = reckA (op / 16 * 16) off true p q := fun p q => if_pos h7
  unfold clsZ
  simp only [tolC_n n176, tv, h7, if_true, tolQ, tolS, Int.reduceEq, and_false, or_false]
  generalize op / 16 * 16 = c at *
  by_cases o1 : off = 1
  · have hq : c = 48 ∨ c = 144 := Classical.byContradiction fun z => by have := h0 z; omega
    by_cases cc : isC a ∧ isC b
    · rw [if_pos ⟨cc, Or.inl o1⟩, tdN_cst]
      rcases hq with rfl | rfl
      · show _ = (if off = 1 then (if isC a ∧ isC b then cstN (reck 48 off true (jV a) (jV b)) else anyN) else _)
        rw [if_pos o1, if_pos cc]
        rfl
      · show _ = (if off = 1 then (if isC a ∧ isC b then cstN (reck 144 off true (jV a) (jV b)) else anyN) else _)
        rw [if_pos o1, if_pos cc]
        rfl
    · rw [if_neg (fun z => cc z.1), if_pos o1, tdN_any]
      rcases hq with rfl | rfl
      · show _ = (if off = 1 then (if isC a ∧ isC b then cstN (reck 48 off true (jV a) (jV b)) else anyN) else _)
        rw [if_pos o1, if_neg cc]
      · show _ = (if off = 1 then (if isC a ∧ isC b then cstN (reck 144 off true (jV a) (jV b)) else anyN) else _)
        rw [if_pos o1, if_neg cc]
  · have o0 : off = 0 := by
      by_cases z : c = 48 ∨ c = 144
      · have := hc.2 z; omega
      · exact h0 z
    subst o0
    have nb : ∀ (p q : B64), (if (0 : Int) = 1 then p else q) = q := fun p q => if_neg (by decide)
    rcases hc.1 with rfl | rfl | rfl | rfl | rfl | rfl | rfl | rfl | rfl | rfl | rfl
    · rw [if_neg (by omega), if_neg (by omega)]; rfl
    · rw [if_neg (by omega), if_neg (by omega)]; rfl
    · by_cases cc : isC a ∧ isC b
      · rw [if_pos ⟨cc, by omega⟩, tdN_cst]
        show _ = tdN (mulN a b)
        rw [mul_c cc, tdN_cst]
        rfl
      · rw [if_neg (fun z => cc z.1), if_neg (by omega)]; rfl
    · by_cases cc : isC a ∧ isC b
      · rw [if_pos ⟨cc, by omega⟩, tdN_cst]
        show _ = tdN (divN a b)
        rw [div_c cc, tdN_cst]
        rfl
      · rw [if_neg (fun z => cc z.1), if_neg (by omega)]; rfl
    · rw [if_neg (by omega), if_neg (by omega)]; rfl
    · rw [if_neg (by omega), if_neg (by omega)]; rfl
    · rw [if_neg (by omega), if_neg (by omega)]
      show tdN (if isC b then shlN a ((jV b).toNat % 64) else anyN) = (if isC b then tdN (shlN a ((jV b).toNat % 64)) else anyN)
      split
      · rfl
      · exact tdN_any
    · rw [if_neg (by omega), if_neg (by omega)]
      show tdN (if isC b then shrN a ((jV b).toNat % 64) else shrA a) = (if isC b then tdN (shrN a ((jV b).toNat % 64)) else tdN (shrA a))
      split <;> rfl
    · by_cases cc : isC a ∧ isC b
      · rw [if_pos ⟨cc, by omega⟩, tdN_cst]
        show _ = tdN (remN a b)
        rw [rem_c cc, tdN_cst]
        rfl
      · rw [if_neg (fun z => cc z.1), if_neg (by omega)]; rfl
    · rw [if_neg (by omega), if_neg (by omega)]; rfl
    · rw [if_neg (by omega), if_neg (by omega)]
      show tdN (if isC b then sarN a ((jV b).toNat % 64) else sarA a) = (if isC b then tdN (sarN a ((jV b).toNat % 64)) else tdN (sarA a))
      split <;> rfl
theorem cn_shl : cutT (tdN (cmbN 96 0 32 a b)) = cutT (opN 96 0 a (if ((96 : Int) = 96 ∨ (96 : Int) = 112) ∧ isC b then cstN (jV b &&& 31#64) else b)) := by
  have e1 : cmbN 96 0 32 a b = if isC b then shlN a ((jV b).toNat % 32) else anyN := rfl
  rw [e1, opN_shl]
  by_cases cb : isC b
  · have e2 : (if ((96 : Int) = 96 ∨ (96 : Int) = 112) ∧ isC b then cstN (jV b &&& 31#64) else b) = cstN (jV b &&& 31#64) := if_pos ⟨by decide, cb⟩
    rw [e2, if_pos cb, if_pos (show isC (cstN (jV b &&& 31#64)) from rfl), show jV (cstN (jV b &&& 31#64)) = jV b &&& 31#64 from rfl, and31, Nat.mod_eq_of_lt (show (jV b).toNat % 32 < 64 by omega)]
  · have e2 : (if ((96 : Int) = 96 ∨ (96 : Int) = 112) ∧ isC b then cstN (jV b &&& 31#64) else b) = b := if_neg (fun z => cb z.2)
    rw [e2, if_neg cb, if_neg cb, tdN_any]
theorem cn_shr : cutT (tdN (cmbN 112 0 32 a b)) = cutT (opN 112 0 a (if ((112 : Int) = 96 ∨ (112 : Int) = 112) ∧ isC b then cstN (jV b &&& 31#64) else b)) := by
  have e1 : cmbN 112 0 32 a b = if isC b then shrN a ((jV b).toNat % 32) else shrA a := rfl
  rw [e1, opN_shr]
  by_cases cb : isC b
  · have e2 : (if ((112 : Int) = 96 ∨ (112 : Int) = 112) ∧ isC b then cstN (jV b &&& 31#64) else b) = cstN (jV b &&& 31#64) := if_pos ⟨by decide, cb⟩
    rw [e2, if_pos cb, if_pos (show isC (cstN (jV b &&& 31#64)) from rfl), show jV (cstN (jV b &&& 31#64)) = jV b &&& 31#64 from rfl, and31, Nat.mod_eq_of_lt (show (jV b).toNat % 32 < 64 by omega)]
  · have e2 : (if ((112 : Int) = 96 ∨ (112 : Int) = 112) ∧ isC b then cstN (jV b &&& 31#64) else b) = b := if_neg (fun z => cb z.2)
    rw [e2, if_neg cb, if_neg cb]
theorem rA32 {x y : B64} : reckA 32 0 false x y = x * y := rfl
theorem rA48 {x y : B64} : reckA 48 0 false x y = x / y := rfl
theorem rA144 {x y : B64} : reckA 144 0 false x y = x % y := rfl
theorem cnE0 : tdN (cmbN 0 0 32 a b) = opN 0 0 a b := by
  have e1 : cmbN 0 0 32 a b = addN a b := by simp only [cmbN, Int.reduceEq, if_true, if_false, reduceIte]
  have e2 : opN 0 0 a b = tdN (addN a b) := by simp only [opN, Int.reduceEq, if_true, if_false, reduceIte, or_false, or_true, false_or]
  rw [e1, e2]
theorem cnE16 : tdN (cmbN 16 0 32 a b) = opN 16 0 a b := by
  have e1 : cmbN 16 0 32 a b = subN a b := by simp only [cmbN, Int.reduceEq, if_true, if_false, reduceIte]
  have e2 : opN 16 0 a b = tdN (subN a b) := by simp only [opN, Int.reduceEq, if_true, if_false, reduceIte, or_false, or_true, false_or]
  rw [e1, e2]
theorem cnE32 : tdN (cmbN 32 0 32 a b) = opN 32 0 a b := by
  have e1 : cmbN 32 0 32 a b = mulN a b := by simp only [cmbN, Int.reduceEq, if_true, if_false, reduceIte]
  have e2 : opN 32 0 a b = tdN (mulN a b) := by simp only [opN, Int.reduceEq, if_true, if_false, reduceIte, or_false, or_true, false_or]
  rw [e1, e2]
theorem cnE48 : tdN (cmbN 48 0 32 a b) = opN 48 0 a b := by
  have e1 : cmbN 48 0 32 a b = divN a b := by simp only [cmbN, Int.reduceEq, if_true, if_false, reduceIte]
  have e2 : opN 48 0 a b = tdN (divN a b) := by simp only [opN, Int.reduceEq, if_true, if_false, reduceIte, or_false, or_true, false_or]
  rw [e1, e2]
theorem cnE64 : tdN (cmbN 64 0 32 a b) = opN 64 0 a b := by
  have e1 : cmbN 64 0 32 a b = orN a b := by simp only [cmbN, Int.reduceEq, if_true, if_false, reduceIte]
  have e2 : opN 64 0 a b = tdN (orN a b) := by simp only [opN, Int.reduceEq, if_true, if_false, reduceIte, or_false, or_true, false_or]
  rw [e1, e2]
theorem cnE80 : tdN (cmbN 80 0 32 a b) = opN 80 0 a b := by
  have e1 : cmbN 80 0 32 a b = andN a b := by simp only [cmbN, Int.reduceEq, if_true, if_false, reduceIte]
  have e2 : opN 80 0 a b = tdN (andN a b) := by simp only [opN, Int.reduceEq, if_true, if_false, reduceIte, or_false, or_true, false_or]
  rw [e1, e2]
theorem cnE144 : tdN (cmbN 144 0 32 a b) = opN 144 0 a b := by
  have e1 : cmbN 144 0 32 a b = remN a b := by simp only [cmbN, Int.reduceEq, if_true, if_false, reduceIte]
  have e2 : opN 144 0 a b = tdN (remN a b) := by simp only [opN, Int.reduceEq, if_true, if_false, reduceIte, or_false, or_true, false_or]
  rw [e1, e2]
theorem cnE160 : tdN (cmbN 160 0 32 a b) = opN 160 0 a b := by
  have e1 : cmbN 160 0 32 a b = xorN a b := by simp only [cmbN, Int.reduceEq, if_true, if_false, reduceIte]
  have e2 : opN 160 0 a b = tdN (xorN a b) := by simp only [opN, Int.reduceEq, if_true, if_false, reduceIte, or_false, or_true, false_or]
  rw [e1, e2]
theorem cls_n (h4 : op % 8 = 4) (hc : okO (op / 16 * 16) off) (h0 : ¬ (op / 16 * 16 = 48 ∨ op / 16 * 16 = 144) → off = 0) : cutT (tdN (clsZ op off (cutT x) (cutT y))) = opW (op / 16 * 16) off x y := by
  have n176 : ¬ op / 16 * 16 = 176 := by
    rcases hc.1 with z | z | z | z | z | z | z | z | z | z | z <;> omega
  have n7 : ¬ op % 8 = 7 := by omega
  have tv : tolV op off (jV (cutT x)) (jV (cutT y)) = reckA (op / 16 * 16) off false (jV (cutT x)) (jV (cutT y)) &&& cF := by
    unfold tolV
    rw [if_neg n7, cut_m, cut_m]
  unfold clsZ opW
  simp only [tolC_n n176, tv, n7, if_false, tolQ, tolS, eq_true h4, and_true]
  clear tv
  generalize cutT x = a at *
  generalize cutT y = b at *
  generalize op / 16 * 16 = c at *
  by_cases s : off = 1 ∨ c = 192
  · have s' : c = 192 ∨ off = 1 := s.symm
    rw [if_pos s']
    by_cases cc : isC a ∧ isC b
    · rw [if_pos ⟨cc, Or.inl s⟩, if_pos cc, tdN_cst, cutT_cst, cF_cF]
      congr 2
      unfold reckA
      have n128 : ¬ c = 128 := by
        rcases hc.1 with z | z | z | z | z | z | z | z | z | z | z <;> omega
      rw [if_neg n128, if_neg n176]
    · rw [if_neg (fun z => cc z.1), if_pos s, if_neg cc, tdN_any, cutT_any]
  · have s' : ¬ (c = 192 ∨ off = 1) := fun z => s z.symm
    have o0 : off = 0 := by
      by_cases z : c = 48 ∨ c = 144
      · have := hc.2 z; omega
      · exact h0 z
    subst o0
    rw [if_neg s']
    rcases hc.1 with rfl | rfl | rfl | rfl | rfl | rfl | rfl | rfl | rfl | rfl | rfl
    · rw [if_neg (by omega), if_neg (by omega), if_neg (by omega)]; exact congrArg cutT cnE0
    · rw [if_neg (by omega), if_neg (by omega), if_neg (by omega)]; exact congrArg cutT cnE16
    · rw [if_neg (c := ((32 : Int) = 96 ∨ (32 : Int) = 112) ∧ isC b) (by omega)]
      by_cases cc : isC a ∧ isC b
      · rw [if_pos ⟨cc, by omega⟩, tdN_cst]
        show _ = cutT (tdN (mulN a b))
        rw [mul_c cc, tdN_cst, cutT_cst, cutT_cst, cF_cF]
        rw [rA32]
      · rw [if_neg (fun z => cc z.1), if_neg (by omega)]; exact congrArg cutT cnE32
    · rw [if_neg (c := ((48 : Int) = 96 ∨ (48 : Int) = 112) ∧ isC b) (by omega)]
      by_cases cc : isC a ∧ isC b
      · rw [if_pos ⟨cc, by omega⟩, tdN_cst]
        show _ = cutT (tdN (divN a b))
        rw [div_c cc, tdN_cst, cutT_cst, cutT_cst, cF_cF]
        rw [rA48]
      · rw [if_neg (fun z => cc z.1), if_neg (by omega)]; exact congrArg cutT cnE48
    · rw [if_neg (by omega), if_neg (by omega), if_neg (by omega)]; exact congrArg cutT cnE64
    · rw [if_neg (by omega), if_neg (by omega), if_neg (by omega)]; exact congrArg cutT cnE80
    · rw [if_neg (by omega), if_neg (by omega)]
      exact cn_shl
    · rw [if_neg (by omega), if_neg (by omega)]
      exact cn_shr
    · rw [if_neg (c := ((144 : Int) = 96 ∨ (144 : Int) = 112) ∧ isC b) (by omega)]
      by_cases cc : isC a ∧ isC b
      · rw [if_pos ⟨cc, by omega⟩, tdN_cst]
        show _ = cutT (tdN (remN a b))
        rw [rem_c cc, tdN_cst, cutT_cst, cutT_cst, cF_cF]
        rw [rA144]
      · rw [if_neg (fun z => cc z.1), if_neg (by omega)]; exact congrArg cutT cnE144
    · rw [if_neg (by omega), if_neg (by omega), if_neg (by omega)]; exact congrArg cutT cnE160
    · exact absurd (Or.inr rfl) s
theorem cls_m (hc : op / 16 * 16 = 176) (h0 : ¬ off = 1) : clsZ op off a b = if isC b then cstN (tolV op off (jV a) (jV b)) else sgnN off.toNat := by
  have s : ¬ tolS op off := by
    rintro (z | z)
    · exact h0 z
    · omega
  unfold clsZ
  by_cases cb : isC b
  · rw [if_pos cb, if_pos ⟨⟨Or.inr hc, cb⟩, Or.inr (Or.inl hc)⟩]
  · rw [if_neg cb, if_neg (fun z => cb z.1.2), if_neg s, hc]
    rfl
theorem cls_mw (h7 : op % 8 = 7) (hc : op / 16 * 16 = 176) (h0 : off = 8 ∨ off = 16 ∨ off = 32) : tdN (clsZ op off a b) = extN off.toNat b := by
  rw [cls_m hc (by omega)]
  unfold extN
  by_cases cb : isC b
  · rw [if_pos cb, if_pos cb, tdN_cst]
    unfold tolV
    rw [if_pos h7, hc]
    show cstN (if off = 0 then jV b else sxt off.toNat (jV b)) = _
    rw [if_neg (by omega)]
  · rw [if_neg cb, if_neg cb]
theorem cls_mn (h4 : op % 8 = 4) (hc : op / 16 * 16 = 176) (h0 : off = 8 ∨ off = 16 ∨ off = 32) : cutT (tdN (clsZ op off (cutT x) (cutT y))) = extW off.toNat (cutT y) := by
  rw [cls_m hc (by omega)]
  unfold extW
  by_cases cb : isC (cutT y)
  · rw [if_pos cb, if_pos cb, tdN_cst, cutT_cst]
    unfold tolV
    rw [if_neg (by omega), hc, cut_m, cut_m]
    show cstN ((if off = 0 then jV (cutT y) else sxt off.toNat (jV (cutT y))) &&& cF &&& cF) = _
    rw [if_neg (by omega), cF_cF]
  · rw [if_neg cb, if_neg cb]
/-- minus is 0 minus -/
theorem cls_g : clsZ (op % 16 + 16) 0 a b = if (op % 16 + 16) / 16 * 16 = 16 then subN a b else clsZ (op % 16 + 16) 0 a b := by
  have e : (op % 16 + 16) / 16 * 16 = 16 := by omega
  rw [if_pos e]
  unfold clsZ
  rw [if_neg (by
    rintro ⟨-, z⟩
    rcases z with z | z | z | z | z
    · rcases z with z | z
      · omega
      · omega
    · omega
    · omega
    · omega
    · omega), if_neg (by
    rintro (z | z)
    · omega
    · omega), e]
  rfl
end COP
/-! ===== the class's operate ===== -/
/-- only the Nums that Steps reckons with have changed -/
def nfq (τ σ : MS) : Prop := (∀ k s, gI τ k s = gI σ k s) ∧ (∀ k s, ¬ (42 ≤ k ∧ k ≤ 50) → gL τ k s = gL σ k s) ∧ τ.2.2 = σ.2.2
theorem nfq_r (σ : MS) : nfq σ σ := ⟨fun _ _ => rfl, fun _ _ _ => rfl, rfl⟩
theorem nfq_t {a b c : MS} (h1 : nfq a b) (h2 : nfq b c) : nfq a c := ⟨fun k s => (h1.1 k s).trans (h2.1 k s), fun k s p => (h1.2.1 k s p).trans (h2.2.1 k s p), h1.2.2.trans h2.2.2⟩
theorem nfq_w {σ : MS} {i : Nat} {n : N6} (h : 42 ≤ i ∧ i ≤ 50) : nfq (wC σ i n) σ := ⟨fun _ _ => rfl, fun k s p => gC_ne (by omega), rfl⟩
/-- what operate makes of two numbers -/
def resN (w : B64) (a b : N6) : N6 :=
  if fC w = 208 then trnN (decide (fOp w = 212)) (fI w).toNat a
  else if fC w = 128 then (if wid w then negN a else cutT (negN (cutT a)))
  else if fC w = 176 then vn (movV w (numV b)).2
  else if wid w then opN (fC w) (fO w) a b else opW (fC w) (fO w) a b
section COPT
variable {σ : MS} {w : B64} {x y a b : N6} {op off : Int} {i j : Nat}
/-- makeTold, combine, tidy, cut: from block 174 on -/
theorem L249 (h0 : 0 ≤ op) (h1 : op < 256) (hij : (i = 42 ∧ j = 43) ∨ (i = 45 ∧ j = 46)) (ri : rC σ i = a) (rj : rC σ j = b) (hc : okC (op / 16 * 16) off) (n128 : ¬ op / 16 * 16 = 128) (wd : wid w ∨ ¬ wid w) (hm : op / 16 * 16 = 176 → 1 ≤ off ∧ off ≤ 64) :
    okc (RR (lkB tb249) (B249_174, [some (mR (some 40)), some (mI (fC w)), some (mI (b2 (wid w))), some (mI op), some (mI off), some (mR (some i)), some (mR (some j))], [], σ)) none (fun τ => rC τ 44 = (if wid w then tdN (clsZ op off a b) else cutT (tdN (clsZ op off a b))) ∧ nfq τ σ) := by
  have ki : isNm σ i := by rcases hij with ⟨e, -⟩ | ⟨e, -⟩ <;> subst e <;> rfl
  have kj : isNm σ j := by rcases hij with ⟨-, e⟩ | ⟨-, e⟩ <;> subst e <;> rfl
  have ni : ¬ i = 44 := by omega
  have nj : ¬ j = 44 := by omega
  have t76 := T76 (σ := σ) (k := 44) (j := i) (i := j) h0 h1 (kc_44 σ) ki kj hc
  rw [ri, rj] at t76
  have s205 : MM 249 [] σ = MM 249 [] σ → RR (lkB tb249) (B249_174, [some (mR (some 40)), some (mI (fC w)), some (mI (b2 (wid w))), some (mI op), some (mI off), some (mR (some i)), some (mR (some j))], [], σ) = RR (lkB tb249) (B249_205, [some (mR (some 40)), some (mI (fC w)), some (mI (b2 (wid w))), some (mI op), some (mI off), some (mR (some i)), some (mR (some j))], [], wC σ 44 (clsZ op off a b)) := fun _ => by
    by_cases P : tolC op a b ∧ tolQ op off
    · rw [if_pos P, b2_yes (Or.inl P)] at t76
      have z : clsZ op off a b = cstN (tolV op off (jV a) (jV b)) := if_pos P
      rw [z]
      simp only [e249_174, e249_188, Option.getD_some, Option.bind_some, Option.toList_some, Option.toList_none, List.cons_append, List.nil_append, and_self, and_true, true_and, false_and, and_false, ite_self, not_true_eq_false, not_false_eq_true, reduceIte, Nat.reduceEqDiff, ab_I, ab_L, ab_R, ao_I, ao_L, ao_R, gL_sL, gI_sI, gR_sR, gI_sL, gI_sR, gL_sI, gL_sR, gR_sI, gR_sL, t76, oneI]
    · by_cases Q : tolS op off
      · rw [if_neg P, if_pos Q, b2_yes (Or.inr Q)] at t76
        have z : clsZ op off a b = anyN := (if_neg P).trans (if_pos Q)
        rw [z]
        simp only [e249_174, e249_188, Option.getD_some, Option.bind_some, Option.toList_some, Option.toList_none, List.cons_append, List.nil_append, and_self, and_true, true_and, false_and, and_false, ite_self, not_true_eq_false, not_false_eq_true, reduceIte, Nat.reduceEqDiff, ab_I, ab_L, ab_R, ao_I, ao_L, ao_R, gL_sL, gI_sI, gR_sR, gI_sL, gI_sR, gL_sI, gL_sR, gR_sI, gR_sL, t76, oneI]
      · rw [if_neg P, if_neg Q, b2_no (fun z => z.elim P Q)] at t76
        have z : clsZ op off a b = cmbN (op / 16 * 16) off (if op % 8 = 7 then 64 else 32) a b := (if_neg P).trans (if_neg Q)
        have hc' : op / 16 * 16 = 0 ∨ op / 16 * 16 = 16 ∨ op / 16 * 16 = 32 ∨ op / 16 * 16 = 48 ∨ op / 16 * 16 = 64 ∨ op / 16 * 16 = 80 ∨ op / 16 * 16 = 96 ∨ op / 16 * 16 = 112 ∨ op / 16 * 16 = 144 ∨ op / 16 * 16 = 160 ∨ op / 16 * 16 = 176 ∨ op / 16 * 16 = 192 := by
          rcases hc.1 with q | q | q | q | q | q | q | q | q | q | q | q | q <;> omega
        have t77 := T77 (σ := σ) (k := 44) (j := i) (i := j) (off := off) h0 h1 rfl (kc_44 σ) ki kj ni nj hc' (fun q => by
          rw [ri, rj]
          intro cc
          refine P ⟨⟨Or.inl cc.1, cc.2⟩, ?_⟩
          rcases q with q | q | q
          · exact Or.inr (Or.inr (Or.inl q))
          · exact Or.inr (Or.inr (Or.inr (Or.inl q)))
          · exact Or.inr (Or.inr (Or.inr (Or.inr q)))) hm
        rw [ri, rj] at t77
        rw [z]
        simp only [e249_174, e249_188, Option.getD_some, Option.bind_some, Option.toList_some, Option.toList_none, List.cons_append, List.nil_append, and_self, and_true, true_and, false_and, and_false, ite_self, not_true_eq_false, not_false_eq_true, reduceIte, Nat.reduceEqDiff, ab_I, ab_L, ab_R, ao_I, ao_L, ao_R, gL_sL, gI_sI, gR_sR, gI_sL, gI_sR, gL_sI, gL_sR, gR_sI, gR_sL, t76, t77]
  rw [s205 rfl]
  generalize clsZ op off a b = z
  have t73 := T73n (σ := σ) (k := 44) (n := z) (kc_44 σ)
  by_cases w7 : wid w
  · rw [b2_yes w7, if_pos w7]
    simp only [e249_205, e249_212, e249_213, e249_239, Option.getD_some, Option.bind_some, Option.toList_some, Option.toList_none, List.cons_append, List.nil_append, and_self, and_true, true_and, false_and, and_false, ite_self, not_true_eq_false, not_false_eq_true, reduceIte, Nat.reduceEqDiff, ab_I, ab_L, ab_R, ao_I, ao_L, ao_R, gL_sL, gI_sI, gR_sR, gI_sL, gI_sR, gL_sI, gL_sR, gR_sI, gR_sL, t73, oneI]
    exact okc_s ⟨by rw [rC_wC, if_pos rfl], nfq_w (by omega)⟩
  · rw [b2_no w7, if_neg w7]
    have t75 := T75 (σ := wC σ 44 (tdN z)) (k := 42) (j := 44) (kc_42 _) (kc_44 _) (by decide)
    rw [rC_wC, if_pos rfl] at t75
    have t66 := T66 (σ := wC (wC σ 44 (tdN z)) 42 (cutT (tdN z))) (k := 44) (j := 42) (kc_44 _) (kc_42 _) (by decide)
    rw [rC_wC, if_pos rfl] at t66
    simp only [e249_205, e249_212, e249_213, e249_228, e249_239, Option.getD_some, Option.bind_some, Option.toList_some, Option.toList_none, List.cons_append, List.nil_append, and_self, and_true, true_and, false_and, and_false, ite_self, not_true_eq_false, not_false_eq_true, reduceIte, Nat.reduceEqDiff, ab_I, ab_L, ab_R, ao_I, ao_L, ao_R, gL_sL, gI_sI, gR_sR, gI_sL, gI_sR, gL_sI, gL_sR, gR_sI, gR_sL, t73, t75, t66]
    exact okc_s ⟨by rw [rC_wC, if_pos rfl], nfq_t (nfq_w (by omega)) (nfq_t (nfq_w (by omega)) (nfq_w (by omega)))⟩
theorem iOr16 : ∀ op : Fin 256, iOr (iAnd (op.val : Int) 15) 16 = (op.val : Int) % 16 + 16 := by decide +kernel
theorem iOr16' {op : Int} (h0 : 0 ≤ op) (h1 : op < 256) : iOr (iAnd op 15) 16 = op % 16 + 16 := by
  obtain ⟨n, hn⟩ : ∃ n : Nat, op = (n : Int) := ⟨op.toNat, by omega⟩
  subst hn
  exact iOr16 ⟨n, by omega⟩
theorem T249 (hw : okAlu w) (hl : fL w = 4 ∨ fL w = 7) (g6 : gL σ 40 6 = w) (g7 : gI σ 40 7 = fOp w) (ra : rC σ 42 = a) (rb : rC σ 43 = b) : okc (MM 249 [mR (some 40), mI (fC w), mI (b2 (wid w))] σ) none (fun τ => rC τ 44 = resN w a b ∧ nfq τ σ) := by
  have fr := fld_rng w
  have f1 := fr.1
  have eC : fC w = fOp w / 16 * 16 := rfl
  have eL : fL w = fOp w % 8 := rfl
  unfold resN
  obtain ⟨⟨hd, hc8⟩, hw⟩ := hw
  by_cases c208 : fC w = 208
  · rw [if_pos c208]
    rw [if_pos c208] at hw
    have t90 := T90 (σ := σ) (k := 44) (j := 42) (op := fOp w) (b := fI w) (kc_44 σ) (kc_42 σ) hw.2.2.2
    rw [ra] at t90
    simp only [M249, e249_0, e249_22, e249_29, Option.getD_some, Option.bind_some, Option.toList_some, Option.toList_none, List.cons_append, List.nil_append, and_self, and_true, true_and, false_and, and_false, ite_self, not_true_eq_false, not_false_eq_true, reduceIte, Nat.reduceEqDiff, ab_I, ab_L, ab_R, ao_I, ao_L, ao_R, gL_sL, gI_sI, gR_sR, gI_sL, gI_sR, gL_sI, gL_sR, gR_sI, gR_sL, c208, g6, g7, T4, aoN (kc_44 _), t90]
    exact okc_s ⟨by rw [rC_wC, if_pos rfl], nfq_w (by omega)⟩
  · rw [if_neg c208]
    rw [if_neg c208] at hw
    by_cases c128 : fC w = 128
    · rw [if_pos c128]
      rw [if_pos c128] at hw
      have o0 : fO w = 0 := hw.2.2.1
      have t66 := T66 (σ := σ) (k := 43) (j := 42) (kc_43 σ) (kc_42 σ) (by decide)
      rw [ra] at t66
      have t61 := T61 (σ := wC σ 43 a) (k := 42) (x1 := BitVec.ofNat 64 0) (kc_42 _)
      have io := iOr16' f1.1 f1.2
      have g6' : ∀ n m : N6, gL (wC (wC σ 43 n) 42 m) 40 6 = w := fun n m => by rw [gC_ne (by decide), gC_ne (by decide), g6]
      have g7' : ∀ n m : N6, gI (wC (wC σ 43 n) 42 m) 40 7 = fOp w := fun n m => g7
      have op1 : (fOp w % 16 + 16) / 16 * 16 = 16 := by omega
      have cz : ∀ p q : N6, clsZ (fOp w % 16 + 16) 0 p q = subN p q := fun p q => by rw [cls_g, if_pos op1]
      have hok : okC ((fOp w % 16 + 16) / 16 * 16) 0 := by
        rw [op1]
        exact ⟨by omega, fun _ => Or.inl rfl, fun _ => Or.inl rfl⟩
      by_cases w7 : wid w
      · rw [if_pos w7]
        have l := L249 (σ := wC (wC σ 43 a) 42 (cstN 0#64)) (w := w) (op := fOp w % 16 + 16) (off := 0) (i := 42) (j := 43) (a := cstN 0#64) (b := a) (by omega) (by omega) (Or.inl ⟨rfl, rfl⟩) (by rw [rC_wC, if_pos rfl]) (by rw [rC_wC, if_neg (by decide), rC_wC, if_pos rfl]) hok (by omega) (Or.inl w7) (by omega)
        rw [cz, if_pos w7] at l
        have l := okc_m l (P := fun τ => rC τ 44 = negN a ∧ nfq τ σ) fun τ q => ⟨q.1, nfq_t q.2 (nfq_t (nfq_w (by omega)) (nfq_w (by omega)))⟩
        rw [b2_yes w7] at l ⊢
        simp only [M249, e249_0, e249_48, e249_56, e249_80, e249_88, e249_116, e249_131, e249_148, Option.getD_some, Option.bind_some, Option.toList_some, Option.toList_none, List.cons_append, List.nil_append, and_self, and_true, true_and, false_and, and_false, ite_self, not_true_eq_false, not_false_eq_true, reduceIte, Nat.reduceEqDiff, ab_I, ab_L, ab_R, ao_I, ao_L, ao_R, gL_sL, gI_sI, gR_sR, gI_sL, gI_sR, gL_sI, gL_sR, gR_sI, gR_sL, c208, c128, Int.reduceEq, t66, t61, g6', g7', io, T3, o0]
        rw [c128] at l
        exact l
      · rw [if_neg w7]
        have t75 := T75 (σ := wC (wC σ 43 a) 42 (cstN 0#64)) (k := 45) (j := 42) (kc_45 _) (kc_42 _) (by decide)
        rw [rC_wC, if_pos rfl] at t75
        have t75b := T75 (σ := wC (wC (wC σ 43 a) 42 (cstN 0#64)) 45 (cutT (cstN 0#64))) (k := 46) (j := 43) (kc_46 _) (kc_43 _) (by decide)
        rw [rC_wC, if_neg (by decide), rC_wC, if_neg (by decide), rC_wC, if_pos rfl] at t75b
        have l := L249 (σ := wC (wC (wC (wC σ 43 a) 42 (cstN 0#64)) 45 (cutT (cstN 0#64))) 46 (cutT a)) (w := w) (op := fOp w % 16 + 16) (off := 0) (i := 45) (j := 46) (a := cutT (cstN 0#64)) (b := cutT a) (by omega) (by omega) (Or.inr ⟨rfl, rfl⟩) (by rw [rC_wC, if_neg (by decide), rC_wC, if_pos rfl]) (by rw [rC_wC, if_pos rfl]) hok (by omega) (Or.inr w7) (by omega)
        have z0 : cutT (cstN 0#64) = cstN 0#64 := by
          rw [cutT_cst]
          rfl
        rw [cz, if_neg w7, z0] at l
        have l := okc_m l (P := fun τ => rC τ 44 = cutT (negN (cutT a)) ∧ nfq τ σ) fun τ q => ⟨q.1, nfq_t q.2 (nfq_t (nfq_w (by omega)) (nfq_t (nfq_w (by omega)) (nfq_t (nfq_w (by omega)) (nfq_w (by omega)))))⟩
        rw [b2_no w7] at l ⊢
        rw [z0] at t75 t75b
        simp only [M249, e249_0, e249_48, e249_56, e249_80, e249_88, e249_105, e249_116, e249_131, e249_148, Option.getD_some, Option.bind_some, Option.toList_some, Option.toList_none, List.cons_append, List.nil_append, and_self, and_true, true_and, false_and, and_false, ite_self, not_true_eq_false, not_false_eq_true, reduceIte, Nat.reduceEqDiff, ab_I, ab_L, ab_R, ao_I, ao_L, ao_R, gL_sL, gI_sI, gR_sR, gI_sL, gI_sR, gL_sI, gL_sR, gR_sI, gR_sL, c208, c128, Int.reduceEq, t66, t61, g6', g7', io, T3, o0, t75, t75b]
        rw [c128] at l
        exact l
    · rw [if_neg c128]
      rw [if_neg c128] at hw
      obtain ⟨hS, hO, hZ, hH⟩ := hw
      have oc : okC (fOp w / 16 * 16) (fO w) := by
        refine ⟨by omega, fun z => ?_, fun z => ?_⟩
        · rcases hO with q | q | q
          · exact Or.inl q
          · exact Or.inr q.2
          · omega
        · rcases hO with q | q | q
          · exact Or.inl q
          · have := q.1; omega
          · omega
      by_cases m0 : fC w = 176 ∧ fO w = 0
      · obtain ⟨c176, o0⟩ := m0
        rw [if_pos c176]
        by_cases w7 : wid w
        · have e : vn (movV w (numV b)).2 = b := by
            unfold movV
            rw [if_pos ⟨w7, o0⟩]
            rfl
          rw [e]
          have t66 := T66 (σ := σ) (k := 44) (j := 43) (kc_44 σ) (kc_43 σ) (by decide)
          rw [rb] at t66
          rw [b2_yes w7]
          simp only [M249, e249_0, e249_56, e249_80, e249_88, e249_116, e249_131, e249_148, e249_171, e249_213, e249_239, Option.getD_some, Option.bind_some, Option.toList_some, Option.toList_none, List.cons_append, List.nil_append, and_self, and_true, true_and, false_and, and_false, ite_self, not_true_eq_false, not_false_eq_true, reduceIte, Nat.reduceEqDiff, ab_I, ab_L, ab_R, ao_I, ao_L, ao_R, gL_sL, gI_sI, gR_sR, gI_sL, gI_sR, gL_sI, gL_sR, gR_sI, gR_sL, c176, Int.reduceEq, g6, g7, T3, o0, t66]
          exact okc_s ⟨by rw [rC_wC, if_pos rfl], nfq_w (by omega)⟩
        · have e : vn (movV w (numV b)).2 = cutT (cutT b) := by
            unfold movV
            rw [if_neg (fun z => w7 z.1), if_neg (not_not_intro (show wntN (numV b) (numV b) = 0 from rfl)), if_pos o0]
            rfl
          rw [e]
          have t75 := T75 (σ := σ) (k := 45) (j := 42) (kc_45 _) (kc_42 _) (by decide)
          have t75b := T75 (σ := wC σ 45 (cutT (rC σ 42))) (k := 46) (j := 43) (kc_46 _) (kc_43 _) (by decide)
          rw [rC_wC, if_neg (by decide), rb] at t75b
          have t66 := T66 (σ := wC (wC σ 45 (cutT (rC σ 42))) 46 (cutT b)) (k := 44) (j := 46) (kc_44 _) (kc_46 _) (by decide)
          rw [rC_wC, if_pos rfl] at t66
          have t75c := T75 (σ := wC (wC (wC σ 45 (cutT (rC σ 42))) 46 (cutT b)) 44 (cutT b)) (k := 42) (j := 44) (kc_42 _) (kc_44 _) (by decide)
          rw [rC_wC, if_pos rfl] at t75c
          have t66b := T66 (σ := wC (wC (wC (wC σ 45 (cutT (rC σ 42))) 46 (cutT b)) 44 (cutT b)) 42 (cutT (cutT b))) (k := 44) (j := 42) (kc_44 _) (kc_42 _) (by decide)
          rw [rC_wC, if_pos rfl] at t66b
          rw [b2_no w7]
          simp only [M249, e249_0, e249_56, e249_80, e249_88, e249_105, e249_116, e249_131, e249_148, e249_171, e249_213, e249_228, e249_239, Option.getD_some, Option.bind_some, Option.toList_some, Option.toList_none, List.cons_append, List.nil_append, and_self, and_true, true_and, false_and, and_false, ite_self, not_true_eq_false, not_false_eq_true, reduceIte, Nat.reduceEqDiff, ab_I, ab_L, ab_R, ao_I, ao_L, ao_R, gL_sL, gI_sI, gR_sR, gI_sL, gI_sR, gL_sI, gL_sR, gR_sI, gR_sL, c176, Int.reduceEq, g6, g7, T3, o0, t75, t75b, t66, t75c, t66b]
          exact okc_s ⟨by rw [rC_wC, if_pos rfl], nfq_t (nfq_w (by omega)) (nfq_t (nfq_w (by omega)) (nfq_t (nfq_w (by omega)) (nfq_t (nfq_w (by omega)) (nfq_w (by omega)))))⟩
      · have hm : fOp w / 16 * 16 = 176 → 1 ≤ fO w ∧ fO w ≤ 64 := fun z => by
          have : ¬ fO w = 0 := fun q => m0 ⟨z, q⟩
          rcases hO with q | q | q
          · exact absurd q this
          · have := q.1; omega
          · omega
        have okw : ¬ fC w = 176 → okO (fOp w / 16 * 16) (fO w) := fun z => ⟨by
          have := oc.1
          omega, oc.2.1⟩
        have o0 : ¬ fC w = 176 → ¬ (fOp w / 16 * 16 = 48 ∨ fOp w / 16 * 16 = 144) → fO w = 0 := fun z z2 => by
          rcases hO with q | q | q
          · exact q
          · exact absurd q.1 z2
          · exact absurd q.1.1 z
        by_cases w7 : wid w
        · have l := L249 (σ := σ) (w := w) (op := fOp w) (off := fO w) (i := 42) (j := 43) (a := a) (b := b) (by omega) (by omega) (Or.inl ⟨rfl, rfl⟩) ra rb oc c128 (Or.inl w7) hm
          rw [if_pos w7] at l
          have e : (if fC w = 176 then vn (movV w (numV b)).2 else if wid w then opN (fC w) (fO w) a b else opW (fC w) (fO w) a b) = tdN (clsZ (fOp w) (fO w) a b) := by
            by_cases c176 : fC w = 176
            · have no : ¬ fO w = 0 := fun q => m0 ⟨c176, q⟩
              rw [if_pos c176, cls_mw w7 c176 (by rcases oc.2.2 c176 with q | q | q | q <;> omega)]
              unfold movV
              rw [if_neg (fun z => no z.2), if_neg (not_not_intro (show wntN (numV b) (numV b) = 0 from rfl)), if_neg no, if_pos w7]
              rfl
            · rw [if_neg c176, if_pos w7]
              exact (cls_w w7 (okw c176) (o0 c176)).symm
          rw [e]
          rw [b2_yes w7] at l ⊢
          by_cases c176 : fC w = 176
          · have no : ¬ fO w = 0 := fun q => m0 ⟨c176, q⟩
            rw [c176] at l
            simp only [M249, e249_0, e249_56, e249_80, e249_88, e249_116, e249_131, e249_148, Option.getD_some, Option.bind_some, Option.toList_some, Option.toList_none, List.cons_append, List.nil_append, and_self, and_true, true_and, false_and, and_false, ite_self, not_true_eq_false, not_false_eq_true, reduceIte, Nat.reduceEqDiff, ab_I, ab_L, ab_R, ao_I, ao_L, ao_R, gL_sL, gI_sI, gR_sR, gI_sL, gI_sR, gL_sI, gL_sR, gR_sI, gR_sL, c176, Int.reduceEq, g6, g7, T3, no]
            exact l
          · simp only [M249, e249_0, e249_56, e249_80, e249_88, e249_116, e249_131, e249_148, Option.getD_some, Option.bind_some, Option.toList_some, Option.toList_none, List.cons_append, List.nil_append, and_self, and_true, true_and, false_and, and_false, ite_self, not_true_eq_false, not_false_eq_true, reduceIte, Nat.reduceEqDiff, ab_I, ab_L, ab_R, ao_I, ao_L, ao_R, gL_sL, gI_sI, gR_sR, gI_sL, gI_sR, gL_sI, gL_sR, gR_sI, gR_sL, c208, c128, c176, Int.reduceEq, g6, g7, T3]
            exact l
        · have t75 := T75 (σ := σ) (k := 45) (j := 42) (kc_45 _) (kc_42 _) (by decide)
          rw [ra] at t75
          have t75b := T75 (σ := wC σ 45 (cutT a)) (k := 46) (j := 43) (kc_46 _) (kc_43 _) (by decide)
          rw [rC_wC, if_neg (by decide), rb] at t75b
          have l := L249 (σ := wC (wC σ 45 (cutT a)) 46 (cutT b)) (w := w) (op := fOp w) (off := fO w) (i := 45) (j := 46) (a := cutT a) (b := cutT b) (by omega) (by omega) (Or.inr ⟨rfl, rfl⟩) (by rw [rC_wC, if_neg (by decide), rC_wC, if_pos rfl]) (by rw [rC_wC, if_pos rfl]) oc c128 (Or.inr w7) hm
          rw [if_neg w7] at l
          have e4 : fOp w % 8 = 4 := by
            have w7 : ¬ fL w = 7 := w7
            omega
          have e : (if fC w = 176 then vn (movV w (numV b)).2 else if wid w then opN (fC w) (fO w) a b else opW (fC w) (fO w) a b) = cutT (tdN (clsZ (fOp w) (fO w) (cutT a) (cutT b))) := by
            by_cases c176 : fC w = 176
            · have no : ¬ fO w = 0 := fun q => m0 ⟨c176, q⟩
              rw [if_pos c176, cls_mn e4 c176 (by rcases oc.2.2 c176 with q | q | q | q <;> omega)]
              unfold movV
              rw [if_neg (fun z => no z.2), if_neg (not_not_intro (show wntN (numV b) (numV b) = 0 from rfl)), if_neg no, if_neg w7]
              rfl
            · rw [if_neg c176, if_neg w7]
              exact (cls_n e4 (okw c176) (o0 c176)).symm
          rw [e]
          have l := okc_m l (P := fun τ => rC τ 44 = cutT (tdN (clsZ (fOp w) (fO w) (cutT a) (cutT b))) ∧ nfq τ σ) fun τ q => ⟨q.1, nfq_t q.2 (nfq_t (nfq_w (by omega)) (nfq_w (by omega)))⟩
          rw [b2_no w7] at l ⊢
          by_cases c176 : fC w = 176
          · have no : ¬ fO w = 0 := fun q => m0 ⟨c176, q⟩
            rw [c176] at l
            simp only [M249, e249_0, e249_56, e249_80, e249_88, e249_105, e249_116, e249_131, e249_148, Option.getD_some, Option.bind_some, Option.toList_some, Option.toList_none, List.cons_append, List.nil_append, and_self, and_true, true_and, false_and, and_false, ite_self, not_true_eq_false, not_false_eq_true, reduceIte, Nat.reduceEqDiff, ab_I, ab_L, ab_R, ao_I, ao_L, ao_R, gL_sL, gI_sI, gR_sR, gI_sL, gI_sR, gL_sI, gL_sR, gR_sI, gR_sL, c176, Int.reduceEq, g6, g7, T3, no, t75, t75b]
            exact l
          · simp only [M249, e249_0, e249_56, e249_80, e249_88, e249_105, e249_116, e249_131, e249_148, Option.getD_some, Option.bind_some, Option.toList_some, Option.toList_none, List.cons_append, List.nil_append, and_self, and_true, true_and, false_and, and_false, ite_self, not_true_eq_false, not_false_eq_true, reduceIte, Nat.reduceEqDiff, ab_I, ab_L, ab_R, ao_I, ao_L, ao_R, gL_sL, gI_sI, gR_sR, gI_sL, gI_sR, gL_sI, gL_sR, gR_sI, gR_sL, c208, c128, c176, Int.reduceEq, g6, g7, T3, t75, t75b]
            exact l
end COPT
