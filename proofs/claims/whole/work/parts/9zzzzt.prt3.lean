/-! ===== print: the reference's statements ===== -/
/-- the reference's texts of signs -/
def szJ (w : B64) : Nat := if fB w * 8 = 0 then 88 else if fB w * 8 = 8 then 89 else if fB w * 8 = 16 then 90 else 91
def cmR (c : Int) : Nat := if c = 16 then 106 else if c = 32 then 107 else if c = 48 then 108 else if c = 64 then 109 else if c = 80 then 110 else if c = 96 then 111 else if c = 112 then 112 else if c = 160 then 113 else if c = 176 then 114 else if c = 192 then 115 else 116
def opR (c o : Int) : Nat := if c = 0 then 92 else if c = 16 then 93 else if c = 32 then 94 else if c = 48 then (if o = 1 then 95 else 96) else if c = 64 then 97 else if c = 80 then 98 else if c = 96 then 99 else if c = 112 then 100 else if c = 144 then (if o = 1 then 101 else 102) else if c = 160 then 103 else if c = 176 then 104 else 105
section PRT3
variable {σ τ ρ : MS} {L M N : List Int} {i j k n r : Nat} {c x sg : Int} {w w2 : B64} {b : Bool}
theorem sz_b (w : B64) : szJ w < stN := by
  unfold szJ
  repeat' split
  all_goals decide
theorem cmR_b (x : Int) : cmR x < stN := by
  unfold cmR
  repeat' split
  all_goals decide
theorem opR_b (c x : Int) : opR c x < stN := by
  unfold opR
  repeat' split
  all_goals decide
theorem szT (w : B64) : deT (8 * bytN w) ++ sxT 5 = sxT (szJ w) := by
  have hb : fB w = 0 ∨ fB w = 1 ∨ fB w = 2 ∨ fB w = 3 := by
    unfold fB
    omega
  unfold szJ bytN
  rcases hb with h | h | h | h <;> rw [h] <;> decide +kernel
theorem cm_e (c : Int) : sxT (cmJ c) = [32] ++ (sxT (cmR c) ++ [32]) := by
  unfold cmJ cmR
  repeat' split
  all_goals decide +kernel
theorem op_e (c x : Int) : sxT (opJ c x) = [32] ++ (sxT (opR c x) ++ [32]) := by
  unfold opJ opR
  repeat' split
  all_goals decide +kernel
theorem opJ_a (c x : Int) (M : List Int) : sxT (opJ c x) ++ M = [32] ++ (sxT (opR c x) ++ ([32] ++ M)) := by rw [op_e, List.append_assoc, List.append_assoc]
theorem s16 : sxT 16 = [32] := by decide +kernel
theorem plRe (sg : Int) (w : B64) (r : Int) : plT sg w r = sxT 4 ++ ([sg] ++ (sxT (szJ w) ++ (rgX true r ++ (sxT (if fO w < 0 then 6 else 7) ++ (deT (fO w).natAbs ++ [41]))))) := by
  unfold plT
  rw [← szT, List.append_assoc]
theorem T404 : MM 404 [mI c] σ = some (some (mR (some (strK + cmR c))), σ) := by
  unfold cmR
  rw [M404, e404_0]
  by_cases c16 : c = 16
  · rw [if_pos c16, if_pos c16]
  rw [if_neg c16, if_neg c16]
  by_cases c32 : c = 32
  · rw [if_pos c32, if_pos c32]
  rw [if_neg c32, if_neg c32]
  by_cases c48 : c = 48
  · rw [if_pos c48, if_pos c48]
  rw [if_neg c48, if_neg c48]
  by_cases c64 : c = 64
  · rw [if_pos c64, if_pos c64]
  rw [if_neg c64, if_neg c64]
  by_cases c80 : c = 80
  · rw [if_pos c80, if_pos c80]
  rw [if_neg c80, if_neg c80]
  by_cases c96 : c = 96
  · rw [if_pos c96, if_pos c96]
  rw [if_neg c96, if_neg c96]
  by_cases c112 : c = 112
  · rw [if_pos c112, if_pos c112]
  rw [if_neg c112, if_neg c112]
  by_cases c160 : c = 160
  · rw [if_pos c160, if_pos c160]
  rw [if_neg c160, if_neg c160]
  by_cases c176 : c = 176
  · rw [if_pos c176, if_pos c176]
  rw [if_neg c176, if_neg c176]
  by_cases c192 : c = 192
  · rw [if_pos c192, if_pos c192]
  rw [if_neg c192, if_neg c192]
theorem T403 : MM 403 [mI c, mI x] σ = some (some (mR (some (strK + opR c x))), σ) := by
  unfold opR
  rw [M403, e403_0]
  by_cases c0 : c = 0
  · rw [if_pos c0, if_pos c0]
  rw [if_neg c0, if_neg c0]
  by_cases c16 : c = 16
  · rw [if_pos c16, if_pos c16]
  rw [if_neg c16, if_neg c16]
  by_cases c32 : c = 32
  · rw [if_pos c32, if_pos c32]
  rw [if_neg c32, if_neg c32]
  by_cases c48 : c = 48
  · rw [if_pos c48, if_pos c48]
    by_cases d : x = 1
    · rw [if_neg (fun z => z d), if_pos d]
    · rw [if_pos d, if_neg d]
  rw [if_neg c48, if_neg c48]
  by_cases c64 : c = 64
  · rw [if_pos c64, if_pos c64]
  rw [if_neg c64, if_neg c64]
  by_cases c80 : c = 80
  · rw [if_pos c80, if_pos c80]
  rw [if_neg c80, if_neg c80]
  by_cases c96 : c = 96
  · rw [if_pos c96, if_pos c96]
  rw [if_neg c96, if_neg c96]
  by_cases c112 : c = 112
  · rw [if_pos c112, if_pos c112]
  rw [if_neg c112, if_neg c112]
  by_cases c144 : c = 144
  · rw [if_pos c144, if_pos c144]
    by_cases d : x = 1
    · rw [if_neg (fun z => z d), if_pos d]
    · rw [if_pos d, if_neg d]
  rw [if_neg c144, if_neg c144]
  by_cases c160 : c = 160
  · rw [if_pos c160, if_pos c160]
  rw [if_neg c160, if_neg c160]
  by_cases c176 : c = 176
  · rw [if_pos c176, if_pos c176]
  rw [if_neg c176, if_neg c176]
theorem T396 : MM 396 [mI (fOp w)] σ = some (some (mR (some (strK + szJ w))), σ) := by
  unfold szJ
  rw [M396, e396_0, m24]
  by_cases c0 : fB w * 8 = 0
  · rw [if_neg (fun z => z c0), if_pos c0]
  · rw [if_pos c0, if_neg c0]
    by_cases c1 : fB w * 8 = 8
    · rw [if_neg (fun z => z c1), if_pos c1]
    · rw [if_pos c1, if_neg c1]
      by_cases c2 : fB w * 8 = 16
      · rw [if_neg (fun z => z c2), if_pos c2]
      · rw [if_pos c2, if_neg c2]
theorem T397 {s : Int} (h : otR σ L) (hs : s = 0 ∧ sg = 117 ∨ s = 1 ∧ sg = 115) (hr : 0 ≤ x ∧ x < 2147483648) (hl : (L ++ plT sg w x).length ≤ 24000) : okc (MM 397 [mR (some 80), mI s, mI (fOp w), mI x, mI (fO w)] σ) none (etR σ L (plT sg w x)) := by
  have fo := fO_r w
  have bsg : -128 ≤ sg ∧ sg < 128 := by omega
  have e7 : ∀ τ', RR (lkB tb397) (B397_7, [some (mR (some 80)), some (mI s), some (mI (fOp w)), some (mI x), some (mI (fO w))], [], τ') = RR (lkB tb397) (B397_19, [some (mR (some 80)), some (mI s), some (mI (fOp w)), some (mI x), some (mI (fO w))], [mI sg, mR (some 80)], τ') := fun τ' => by
    rw [e397_7]
    rcases hs with ⟨h1, h2⟩ | ⟨h1, h2⟩
    · rw [if_pos h1, h2]
    · rw [if_neg (by omega), h2]
  rw [plRe] at hl ⊢
  rw [M397, e397_0]
  by_cases c : fO w < 0
  · rw [if_pos c] at hl ⊢
    have ea : -(iL (fO w)) = iL (((fO w).natAbs : Nat) : Int) := by
      rw [iLn]
      exact congrArg iL (by omega)
    refine okc_b (T391 h (by decide) (app_l1 hl)) fun τz0 z0 => ?_
    simp only [Option.bind_some, Option.toList_some, Option.toList_none, List.cons_append, List.nil_append]
    have zl0 := app_len hl
    rw [e7, e397_19]
    refine okc_b (T390 z0.1 (app_l1 zl0) bsg) fun τz1 z1 => ?_
    simp only [Option.bind_some, Option.toList_some, Option.toList_none, List.cons_append, List.nil_append]
    have zl1 := app_len zl0
    rw [e397_22, T396]
    simp only [Option.bind_some, Option.toList_some, Option.toList_none, List.cons_append, List.nil_append]
    rw [e397_27]
    refine okc_b (T391 z1.1 (sz_b w) (app_l1 zl1)) fun τz2 z2 => ?_
    simp only [Option.bind_some, Option.toList_some, Option.toList_none, List.cons_append, List.nil_append]
    have zl2 := app_len zl1
    rw [e397_30]
    refine okc_b (T395 (b := true) z2.1 (by decide) hr (app_l1 zl2)) fun τz3 z3 => ?_
    simp only [Option.bind_some, Option.toList_some, Option.toList_none, List.cons_append, List.nil_append]
    have zl3 := app_len zl2
    rw [e397_36, if_neg (show ¬ 0 ≤ fO w by omega), e397_51]
    refine okc_b (T391 z3.1 (by decide) (app_l1 zl3)) fun τz4 z4 => ?_
    simp only [Option.bind_some, Option.toList_some, Option.toList_none, List.cons_append, List.nil_append]
    have zl4 := app_len zl3
    rw [e397_54, if_neg (show ¬ 0 ≤ fO w by omega), ea, e397_70]
    refine okc_b (T392n z4.1 (by omega) (app_l1 zl4)) fun τz5 z5 => ?_
    simp only [Option.bind_some, Option.toList_some, Option.toList_none, List.cons_append, List.nil_append]
    have zl5 := app_len zl4
    rw [e397_73]
    refine okc_b (T390 z5.1 zl5 (by decide)) fun τz6 z6 => ?_
    simp only [Option.bind_some, Option.toList_some, Option.toList_none, List.cons_append, List.nil_append]
    rw [e397_79]
    exact okc_s (etR_t z0 (etR_t z1 (etR_t z2 (etR_t z3 (etR_t z4 (etR_t z5 (z6)))))))
  · rw [if_neg c] at hl ⊢
    have ea : iL (fO w) = iL (((fO w).natAbs : Nat) : Int) := congrArg iL (by omega)
    refine okc_b (T391 h (by decide) (app_l1 hl)) fun τz0 z0 => ?_
    simp only [Option.bind_some, Option.toList_some, Option.toList_none, List.cons_append, List.nil_append]
    have zl0 := app_len hl
    rw [e7, e397_19]
    refine okc_b (T390 z0.1 (app_l1 zl0) bsg) fun τz1 z1 => ?_
    simp only [Option.bind_some, Option.toList_some, Option.toList_none, List.cons_append, List.nil_append]
    have zl1 := app_len zl0
    rw [e397_22, T396]
    simp only [Option.bind_some, Option.toList_some, Option.toList_none, List.cons_append, List.nil_append]
    rw [e397_27]
    refine okc_b (T391 z1.1 (sz_b w) (app_l1 zl1)) fun τz2 z2 => ?_
    simp only [Option.bind_some, Option.toList_some, Option.toList_none, List.cons_append, List.nil_append]
    have zl2 := app_len zl1
    rw [e397_30]
    refine okc_b (T395 (b := true) z2.1 (by decide) hr (app_l1 zl2)) fun τz3 z3 => ?_
    simp only [Option.bind_some, Option.toList_some, Option.toList_none, List.cons_append, List.nil_append]
    have zl3 := app_len zl2
    rw [e397_36, if_pos (show 0 ≤ fO w by omega), e397_51]
    refine okc_b (T391 z3.1 (by decide) (app_l1 zl3)) fun τz4 z4 => ?_
    simp only [Option.bind_some, Option.toList_some, Option.toList_none, List.cons_append, List.nil_append]
    have zl4 := app_len zl3
    rw [e397_54, if_pos (show 0 ≤ fO w by omega), ea, e397_70]
    refine okc_b (T392n z4.1 (by omega) (app_l1 zl4)) fun τz5 z5 => ?_
    simp only [Option.bind_some, Option.toList_some, Option.toList_none, List.cons_append, List.nil_append]
    have zl5 := app_len zl4
    rw [e397_73]
    refine okc_b (T390 z5.1 zl5 (by decide)) fun τz6 z6 => ?_
    simp only [Option.bind_some, Option.toList_some, Option.toList_none, List.cons_append, List.nil_append]
    rw [e397_79]
    exact okc_s (etR_t z0 (etR_t z1 (etR_t z2 (etR_t z3 (etR_t z4 (etR_t z5 (z6)))))))
theorem T401 (h : otR σ L) (ok : okMem w) (l3 : fL w = 3) (hl : (L ++ sroT w).length ≤ 24000) : okc (MM 401 [mR (some 80), mL w, mI (fOp w)] σ) none (etR σ L (sroT w)) := by
  unfold sroT at hl ⊢
  rw [M401, e401_0, T336]
  simp only [Option.bind_some, Option.toList_some, Option.toList_none, List.cons_append, List.nil_append]
  rw [e401_4, m224]
  by_cases c : fM w = 96
  · rw [if_pos c] at hl ⊢
    rw [if_neg (fun z => z c)]
    rw [T333]
    simp only [Option.bind_some, Option.toList_some, Option.toList_none, List.cons_append, List.nil_append]
    rw [e401_23, T335]
    simp only [Option.bind_some, Option.toList_some, Option.toList_none, List.cons_append, List.nil_append]
    rw [e401_27]
    refine okc_b (T397 h (Or.inl ⟨rfl, rfl⟩) (fDb w) (app_l1 hl)) fun τz0 z0 => ?_
    simp only [Option.bind_some, Option.toList_some, Option.toList_none, List.cons_append, List.nil_append]
    have zl0 := app_len hl
    rw [e401_30]
    refine okc_b (T391 z0.1 (by decide) (app_l1 zl0)) fun τz1 z1 => ?_
    simp only [Option.bind_some, Option.toList_some, Option.toList_none, List.cons_append, List.nil_append]
    have zl1 := app_len zl0
    rw [e401_37]
    rw [e401_187, T334]
    simp only [Option.bind_some, Option.toList_some, Option.toList_none, List.cons_append, List.nil_append]
    rw [e401_193]
    refine okc_b (T395 (b := true) z1.1 (by decide) (fSb w) zl1) fun τz2 z2 => ?_
    simp only [Option.bind_some, Option.toList_some, Option.toList_none, List.cons_append, List.nil_append]
    rw [e401_196]
    exact okc_s (etR_t z0 (etR_t z1 (z2)))
  rw [if_neg c] at hl ⊢
  rw [if_pos c]
  have im : (fI w = 225 ∨ fI w = 241) ∨ (¬ fI w = 225 ∧ ¬ fI w = 241 ∧ (fI w = 0 ∨ fI w = 64 ∨ fI w = 80 ∨ fI w = 160 ∨ fI w = 1 ∨ fI w = 65 ∨ fI w = 81 ∨ fI w = 161)) := by
    have o2 : ((fOp w = 195 ∨ fOp w = 219) ∧ fD w ≤ 10) ∧ ((fI w = 0 ∨ fI w = 64 ∨ fI w = 80 ∨ fI w = 160 ∨ fI w = 241) ∧ fS w ≤ 10 ∨ (fI w = 1 ∨ fI w = 65 ∨ fI w = 81 ∨ fI w = 161 ∨ fI w = 225) ∧ fS w ≤ 9) := by
      unfold okMem at ok
      rw [if_neg (by omega), if_neg (by omega), if_neg c] at ok
      exact ok
    omega
  rcases im with im | ⟨i1, i2, i3⟩
  · have ex : xsJ (fI w) = 16 := by
      rcases im with q | q <;> rw [q] <;> decide
    have e56 : (if fI w = 225 then RR (lkB tb401) (B401_56, [some (mR (some 80)), some (mL w), none, some (mI (fOp w)), some (mI (fI w)), none], [], σ) else (if ¬ fI w = 241 then (if ¬ iAnd (fI w) 1 = 1 then RR (lkB tb401) (B401_118, [some (mR (some 80)), some (mL w), none, some (mI (fOp w)), some (mI (fI w)), none], [mR (some (strK + 11)), mR (some 80)], σ) else RR (lkB tb401) (B401_118, [some (mR (some 80)), some (mL w), none, some (mI (fOp w)), some (mI (fI w)), none], [mR (some (strK + 10)), mR (some 80)], σ)) else RR (lkB tb401) (B401_56, [some (mR (some 80)), some (mL w), none, some (mI (fOp w)), some (mI (fI w)), none], [], σ))) = RR (lkB tb401) (B401_74, [some (mR (some 80)), some (mL w), none, some (mI (fOp w)), some (mI (fI w)), none], [mR (some (strK + xpJ (fI w))), mR (some 80)], σ) := by
      unfold xpJ
      rcases im with q | q
      · rw [if_pos q, if_pos q, e401_56, if_neg (fun z => z q)]
      · have q1 : ¬ fI w = 225 := by omega
        rw [if_neg q1, if_neg q1, if_neg (fun z => z q), if_pos q, e401_56, if_pos q1]
    rw [e56]
    rw [ex, s16] at hl ⊢
    rw [e401_74]
    refine okc_b (T391 h (xp_b _) (app_l1 hl)) fun τz0 z0 => ?_
    simp only [Option.bind_some, Option.toList_some, Option.toList_none, List.cons_append, List.nil_append]
    have zl0 := app_len hl
    rw [e401_77, T333]
    simp only [Option.bind_some, Option.toList_some, Option.toList_none, List.cons_append, List.nil_append]
    rw [e401_84, T335]
    simp only [Option.bind_some, Option.toList_some, Option.toList_none, List.cons_append, List.nil_append]
    rw [e401_88]
    refine okc_b (T397 z0.1 (Or.inl ⟨rfl, rfl⟩) (fDb w) (app_l1 zl0)) fun τz1 z1 => ?_
    simp only [Option.bind_some, Option.toList_some, Option.toList_none, List.cons_append, List.nil_append]
    have zl1 := app_len zl0
    rw [e401_91]
    refine okc_b (T390 z1.1 (app_l1 zl1) (by decide)) fun τz2 z2 => ?_
    simp only [Option.bind_some, Option.toList_some, Option.toList_none, List.cons_append, List.nil_append]
    have zl2 := app_len zl1
    rw [e401_97]
    rw [e401_187, T334]
    simp only [Option.bind_some, Option.toList_some, Option.toList_none, List.cons_append, List.nil_append]
    rw [e401_193]
    refine okc_b (T395 (b := true) z2.1 (by decide) (fSb w) zl2) fun τz3 z3 => ?_
    simp only [Option.bind_some, Option.toList_some, Option.toList_none, List.cons_append, List.nil_append]
    rw [e401_196]
    exact okc_s (etR_t z0 (etR_t z1 (etR_t z2 (z3))))
  · have e118 : (if fI w = 225 then RR (lkB tb401) (B401_56, [some (mR (some 80)), some (mL w), none, some (mI (fOp w)), some (mI (fI w)), none], [], σ) else (if ¬ fI w = 241 then (if ¬ iAnd (fI w) 1 = 1 then RR (lkB tb401) (B401_118, [some (mR (some 80)), some (mL w), none, some (mI (fOp w)), some (mI (fI w)), none], [mR (some (strK + 11)), mR (some 80)], σ) else RR (lkB tb401) (B401_118, [some (mR (some 80)), some (mL w), none, some (mI (fOp w)), some (mI (fI w)), none], [mR (some (strK + 10)), mR (some 80)], σ)) else RR (lkB tb401) (B401_56, [some (mR (some 80)), some (mL w), none, some (mI (fOp w)), some (mI (fI w)), none], [], σ))) = RR (lkB tb401) (B401_118, [some (mR (some 80)), some (mL w), none, some (mI (fOp w)), some (mI (fI w)), none], [mR (some (strK + xpJ (fI w))), mR (some 80)], σ) := by
      unfold xpJ
      have a1 : iAnd (fI w) 1 = fI w % 2 := iAnd1 _
      rw [if_neg i1, if_pos i2, if_neg i1, if_neg i2, a1]
      by_cases q : fI w % 2 = 0
      · rw [if_pos (by omega), if_pos q]
      · rw [if_neg (by omega), if_neg q]
    have e135 : ∀ τ', RR (lkB tb401) (B401_135, [some (mR (some 80)), some (mL w), none, some (mI (fOp w)), some (mI (fI w)), none], [], τ') = RR (lkB tb401) (B401_184, [some (mR (some 80)), some (mL w), none, some (mI (fOp w)), some (mI (fI w)), some (mI (iAnd (fI w) 240))], [mR (some (strK + xsJ (fI w))), mR (some 80)], τ') := fun τ' => by
      unfold xsJ
      rw [e401_135]
      by_cases q0 : iAnd (fI w) 240 = 0
      · rw [if_neg (fun z => z q0), if_pos q0]
      · rw [if_pos q0, if_neg q0]
        by_cases q1 : iAnd (fI w) 240 = 64
        · rw [if_neg (fun z => z q1), if_pos q1]
        · rw [if_pos q1, if_neg q1]
          by_cases q2 : iAnd (fI w) 240 = 80
          · rw [if_neg (fun z => z q2), if_pos q2]
          · have q3 : iAnd (fI w) 240 = 160 := by
              rcases i3 with q | q | q | q | q | q | q | q <;> rw [q] at q0 q1 q2 ⊢ <;> revert q0 q1 q2 <;> decide
            rw [if_pos q2, if_neg q2, if_pos q3]
    rw [e118]
    rw [e401_118]
    refine okc_b (T391 h (xp_b _) (app_l1 hl)) fun τz0 z0 => ?_
    simp only [Option.bind_some, Option.toList_some, Option.toList_none, List.cons_append, List.nil_append]
    have zl0 := app_len hl
    rw [e401_121, T333]
    simp only [Option.bind_some, Option.toList_some, Option.toList_none, List.cons_append, List.nil_append]
    rw [e401_128, T335]
    simp only [Option.bind_some, Option.toList_some, Option.toList_none, List.cons_append, List.nil_append]
    rw [e401_132]
    refine okc_b (T397 z0.1 (Or.inl ⟨rfl, rfl⟩) (fDb w) (app_l1 zl0)) fun τz1 z1 => ?_
    simp only [Option.bind_some, Option.toList_some, Option.toList_none, List.cons_append, List.nil_append]
    have zl1 := app_len zl0
    rw [e135, e401_184]
    refine okc_b (T391 z1.1 (xs_b _) (app_l1 zl1)) fun τz2 z2 => ?_
    simp only [Option.bind_some, Option.toList_some, Option.toList_none, List.cons_append, List.nil_append]
    have zl2 := app_len zl1
    refine okc_q (ls := [some (mR (some 80)), some (mL w), none, some (mI (fOp w)), some (mI (fI w)), none]) (by repeat (first | exact lq_nil | refine lq_cons (Or.inr rfl) ?_ | refine lq_cons (Or.inl rfl) ?_)) ?_
    rw [e401_187, T334]
    simp only [Option.bind_some, Option.toList_some, Option.toList_none, List.cons_append, List.nil_append]
    rw [e401_193]
    refine okc_b (T395 (b := true) z2.1 (by decide) (fSb w) zl2) fun τz3 z3 => ?_
    simp only [Option.bind_some, Option.toList_some, Option.toList_none, List.cons_append, List.nil_append]
    rw [e401_196]
    exact okc_s (etR_t z0 (etR_t z1 (etR_t z2 (z3))))
theorem T405 (h : otR σ L) (l56 : fL w = 5 ∨ fL w = 6) (hl : (L ++ jmT w).length ≤ 24000) : okc (MM 405 [mR (some 80), mL w, mI (fOp w)] σ) none (etR σ L (jmT w)) := by
  unfold jmT at hl ⊢
  rw [M405, e405_0, m7]
  by_cases c5 : fOp w = 5
  · rw [if_neg (show ¬ fOp w = 149 by omega), if_pos c5] at hl ⊢
    rw [if_pos c5, e405_11, if_neg (fun z => z c5)]
    rw [e405_26]
    refine okc_b (T391 h (by decide) (app_l1 hl)) fun τz0 z0 => ?_
    simp only [Option.bind_some, Option.toList_some, Option.toList_none, List.cons_append, List.nil_append]
    have zl0 := app_len hl
    rw [e405_29, if_neg (fun z => z c5), T335]
    simp only [Option.bind_some, Option.toList_some, Option.toList_none, List.cons_append, List.nil_append]
    rw [e405_39]
    rw [e405_46]
    refine okc_b (T394 z0.1 (fOb w) zl0) fun τz1 z1 => ?_
    simp only [Option.bind_some, Option.toList_some, Option.toList_none, List.cons_append, List.nil_append]
    rw [e405_49]
    rw [e405_214]
    exact okc_s (etR_t z0 (z1))
  rw [if_neg c5]
  by_cases c6 : fOp w = 6
  · rw [if_neg (show ¬ fOp w = 149 by omega), if_neg c5, if_pos c6] at hl
    rw [if_neg (fun z => z c6), if_neg (show ¬ fOp w = 149 by omega), if_neg c5, if_pos c6, e405_11, if_pos c5]
    rw [e405_26]
    refine okc_b (T391 h (by decide) (app_l1 hl)) fun τz0 z0 => ?_
    simp only [Option.bind_some, Option.toList_some, Option.toList_none, List.cons_append, List.nil_append]
    have zl0 := app_len hl
    rw [e405_29, if_pos c5, T336]
    simp only [Option.bind_some, Option.toList_some, Option.toList_none, List.cons_append, List.nil_append]
    rw [e405_46]
    refine okc_b (T394 z0.1 (fIb w) zl0) fun τz1 z1 => ?_
    simp only [Option.bind_some, Option.toList_some, Option.toList_none, List.cons_append, List.nil_append]
    rw [e405_49]
    rw [e405_214]
    exact okc_s (etR_t z0 (z1))
  rw [if_pos c6]
  by_cases c133 : fOp w = 133
  · rw [if_neg (show ¬ fOp w = 149 by omega), if_neg c5, if_neg c6, if_pos c133] at hl ⊢
    rw [if_neg (fun z => z c133)]
    by_cases s1 : fS w = 1
    · rw [if_pos s1] at hl ⊢
      refine okc_b (T391 h (by decide) (app_l1 hl)) fun τz0 z0 => ?_
      simp only [Option.bind_some, Option.toList_some, Option.toList_none, List.cons_append, List.nil_append]
      have zl0 := app_len hl
      rw [e405_66, T334]
      simp only [Option.bind_some, Option.toList_some, Option.toList_none, List.cons_append, List.nil_append]
      rw [e405_70, if_neg (fun z => z s1), T336]
      simp only [Option.bind_some, Option.toList_some, Option.toList_none, List.cons_append, List.nil_append]
      rw [e405_79]
      refine okc_b (T394 z0.1 (fIb w) zl0) fun τz1 z1 => ?_
      simp only [Option.bind_some, Option.toList_some, Option.toList_none, List.cons_append, List.nil_append]
      rw [e405_82]
      rw [e405_214]
      exact okc_s (etR_t z0 (z1))
    · rw [if_neg s1] at hl ⊢
      refine okc_b (T391 h (by decide) (app_l1 hl)) fun τz0 z0 => ?_
      simp only [Option.bind_some, Option.toList_some, Option.toList_none, List.cons_append, List.nil_append]
      have zl0 := app_len hl
      rw [e405_66, T334]
      simp only [Option.bind_some, Option.toList_some, Option.toList_none, List.cons_append, List.nil_append]
      rw [e405_70, if_pos s1, T336]
      simp only [Option.bind_some, Option.toList_some, Option.toList_none, List.cons_append, List.nil_append]
      rw [e405_90]
      refine okc_b (T392 z0.1 zl0) fun τz1 z1 => ?_
      simp only [Option.bind_some, Option.toList_some, Option.toList_none, List.cons_append, List.nil_append]
      rw [e405_94]
      rw [e405_214]
      exact okc_s (etR_t z0 (z1))
  rw [if_pos c133]
  by_cases c149 : fOp w = 149
  · rw [if_pos c149] at hl ⊢
    rw [if_neg (fun z => z c149)]
    refine okc_b (T391 h (by decide) hl) fun τz0 z0 => ?_
    simp only [Option.bind_some, Option.toList_some, Option.toList_none, List.cons_append, List.nil_append]
    rw [e405_111]
    rw [e405_214]
    exact okc_s (z0)
  rw [if_pos c149]
  rw [if_neg c149, if_neg c5, if_neg c6, if_neg c133] at hl ⊢
  have e128 : ∀ f : Int, f = (if fL w = 6 then 1 else 0) → okc (RR (lkB tb405) (B405_128, [some (mR (some 80)), some (mL w), none, some (mI (fOp w)), none], [mI f], σ)) none (etR σ L (sxT 20 ++ (rgX (decide (fL w = 5)) (fD w) ++ (sxT (cmJ (fC w)) ++ (sieT (decide (fL w = 5)) w ++ (sxT 21 ++ whT (fO w))))))) := fun f ef => by
    have hf : f = 0 ↔ decide (fL w = 5) = true := by
      rw [ef]
      by_cases q : fL w = 6
      · rw [if_pos q, decide_eq_false (show ¬ fL w = 5 by omega)]
        decide
      · rw [if_neg q, decide_eq_true (show fL w = 5 by omega)]
        decide
    rw [cm_e, List.append_assoc, List.append_assoc] at hl ⊢
    unfold sieT at hl ⊢
    rw [e405_128]
    by_cases q : rgt w
    · rw [if_pos q] at hl ⊢
      refine okc_b (T391 h (by decide) (app_l1 hl)) fun τz0 z0 => ?_
      simp only [Option.bind_some, Option.toList_some, Option.toList_none, List.cons_append, List.nil_append]
      have zl0 := app_len hl
      rw [e405_137, T333]
      simp only [Option.bind_some, Option.toList_some, Option.toList_none, List.cons_append, List.nil_append]
      rw [e405_144]
      refine okc_b (T395 z0.1 hf (fDb w) (app_l1 zl0)) fun τz1 z1 => ?_
      simp only [Option.bind_some, Option.toList_some, Option.toList_none, List.cons_append, List.nil_append]
      have zl1 := app_len zl0
      rw [e405_147]
      refine okc_b (T390 z1.1 (app_l1 zl1) (by decide)) fun τz2 z2 => ?_
      simp only [Option.bind_some, Option.toList_some, Option.toList_none, List.cons_append, List.nil_append]
      have zl2 := app_len zl1
      rw [e405_153, mC, T404]
      simp only [Option.bind_some, Option.toList_some, Option.toList_none, List.cons_append, List.nil_append]
      rw [e405_162]
      refine okc_b (T391 z2.1 (cmR_b _) (app_l1 zl2)) fun τz3 z3 => ?_
      simp only [Option.bind_some, Option.toList_some, Option.toList_none, List.cons_append, List.nil_append]
      have zl3 := app_len zl2
      rw [e405_165]
      refine okc_b (T390 z3.1 (app_l1 zl3) (by decide)) fun τz4 z4 => ?_
      simp only [Option.bind_some, Option.toList_some, Option.toList_none, List.cons_append, List.nil_append]
      have zl4 := app_len zl3
      rw [e405_171, if_neg (m8_y q), T334]
      simp only [Option.bind_some, Option.toList_some, Option.toList_none, List.cons_append, List.nil_append]
      rw [e405_185]
      refine okc_b (T395 z4.1 hf (fSb w) (app_l1 zl4)) fun τz5 z5 => ?_
      simp only [Option.bind_some, Option.toList_some, Option.toList_none, List.cons_append, List.nil_append]
      have zl5 := app_len zl4
      rw [e405_188]
      rw [e405_199]
      refine okc_b (T391 z5.1 (by decide) (app_l1 zl5)) fun τz6 z6 => ?_
      simp only [Option.bind_some, Option.toList_some, Option.toList_none, List.cons_append, List.nil_append]
      have zl6 := app_len zl5
      rw [e405_206, T335]
      simp only [Option.bind_some, Option.toList_some, Option.toList_none, List.cons_append, List.nil_append]
      rw [e405_211]
      refine okc_b (T394 z6.1 (fOb w) zl6) fun τz7 z7 => ?_
      simp only [Option.bind_some, Option.toList_some, Option.toList_none, List.cons_append, List.nil_append]
      refine okc_q (ls := [some (mR (some 80)), some (mL w), none, some (mI (fOp w)), none]) (by repeat (first | exact lq_nil | refine lq_cons (Or.inr rfl) ?_ | refine lq_cons (Or.inl rfl) ?_)) ?_
      rw [e405_214]
      exact okc_s (etR_t z0 (etR_t z1 (etR_t z2 (etR_t z3 (etR_t z4 (etR_t z5 (etR_t z6 (z7))))))))
    · rw [if_neg q] at hl ⊢
      refine okc_b (T391 h (by decide) (app_l1 hl)) fun τz0 z0 => ?_
      simp only [Option.bind_some, Option.toList_some, Option.toList_none, List.cons_append, List.nil_append]
      have zl0 := app_len hl
      rw [e405_137, T333]
      simp only [Option.bind_some, Option.toList_some, Option.toList_none, List.cons_append, List.nil_append]
      rw [e405_144]
      refine okc_b (T395 z0.1 hf (fDb w) (app_l1 zl0)) fun τz1 z1 => ?_
      simp only [Option.bind_some, Option.toList_some, Option.toList_none, List.cons_append, List.nil_append]
      have zl1 := app_len zl0
      rw [e405_147]
      refine okc_b (T390 z1.1 (app_l1 zl1) (by decide)) fun τz2 z2 => ?_
      simp only [Option.bind_some, Option.toList_some, Option.toList_none, List.cons_append, List.nil_append]
      have zl2 := app_len zl1
      rw [e405_153, mC, T404]
      simp only [Option.bind_some, Option.toList_some, Option.toList_none, List.cons_append, List.nil_append]
      rw [e405_162]
      refine okc_b (T391 z2.1 (cmR_b _) (app_l1 zl2)) fun τz3 z3 => ?_
      simp only [Option.bind_some, Option.toList_some, Option.toList_none, List.cons_append, List.nil_append]
      have zl3 := app_len zl2
      rw [e405_165]
      refine okc_b (T390 z3.1 (app_l1 zl3) (by decide)) fun τz4 z4 => ?_
      simp only [Option.bind_some, Option.toList_some, Option.toList_none, List.cons_append, List.nil_append]
      have zl4 := app_len zl3
      rw [e405_171, if_pos (m8_n q), T336]
      simp only [Option.bind_some, Option.toList_some, Option.toList_none, List.cons_append, List.nil_append]
      rw [e405_196]
      refine okc_b (T393 z4.1 (fIb w) (app_l1 zl4)) fun τz5 z5 => ?_
      simp only [Option.bind_some, Option.toList_some, Option.toList_none, List.cons_append, List.nil_append]
      have zl5 := app_len zl4
      rw [e405_199]
      refine okc_b (T391 z5.1 (by decide) (app_l1 zl5)) fun τz6 z6 => ?_
      simp only [Option.bind_some, Option.toList_some, Option.toList_none, List.cons_append, List.nil_append]
      have zl6 := app_len zl5
      rw [e405_206, T335]
      simp only [Option.bind_some, Option.toList_some, Option.toList_none, List.cons_append, List.nil_append]
      rw [e405_211]
      refine okc_b (T394 z6.1 (fOb w) zl6) fun τz7 z7 => ?_
      simp only [Option.bind_some, Option.toList_some, Option.toList_none, List.cons_append, List.nil_append]
      refine okc_q (ls := [some (mR (some 80)), some (mL w), none, some (mI (fOp w)), none]) (by repeat (first | exact lq_nil | refine lq_cons (Or.inr rfl) ?_ | refine lq_cons (Or.inl rfl) ?_)) ?_
      rw [e405_214]
      exact okc_s (etR_t z0 (etR_t z1 (etR_t z2 (etR_t z3 (etR_t z4 (etR_t z5 (etR_t z6 (z7))))))))
  by_cases q : fL w = 6
  · rw [if_neg (fun z => z q)]
    exact e128 1 (by rw [if_pos q])
  · rw [if_pos q]
    exact e128 0 (by rw [if_neg q])
theorem T402 (h : otR σ L) (l47 : fL w = 4 ∨ fL w = 7) (hl : (L ++ auT w).length ≤ 24000) : okc (MM 402 [mR (some 80), mL w, mI (fOp w)] σ) none (etR σ L (auT w)) := by
  have go : ∀ f : Int, f = (if fL w = 4 then 1 else 0) → okc (RR (lkB tb402) (B402_13, [some (mR (some 80)), some (mL w), none, some (mI (fOp w)), none, none, none, none], [mI f], σ)) none (etR σ L (auT w)) := fun f ef => by
    have hf : ¬ fC w = 208 → (f = 0 ↔ decide (fL w = 7 ∨ fC w = 208) = true) := fun c => by
      rw [ef]
      by_cases q : fL w = 4
      · rw [if_pos q, decide_eq_false (fun z => z.elim (by omega) c)]
        decide
      · rw [if_neg q, decide_eq_true (Or.inl (by omega))]
        decide
    unfold auT at hl ⊢
    rw [e402_13, T333, mC]
    simp only [Option.bind_some, Option.toList_some, Option.toList_none, List.cons_append, List.nil_append]
    rw [e402_26, T335]
    simp only [Option.bind_some, Option.toList_some, Option.toList_none, List.cons_append, List.nil_append]
    have e32 : ∃ f' : Int, (f' = 0 ↔ decide (fL w = 7 ∨ fC w = 208) = true) ∧ RR (lkB tb402) (B402_32, [some (mR (some 80)), some (mL w), none, some (mI (fOp w)), some (mI f), some (mI (fC w)), some (mI (fD w)), none], [mI (fO w)], σ) = RR (lkB tb402) (B402_53, [some (mR (some 80)), some (mL w), none, some (mI (fOp w)), some (mI f), some (mI (fC w)), some (mI (fD w)), some (mI (fO w))], [mI f', mR (some 80)], σ) := by
      rw [e402_32]
      by_cases c : fC w = 208
      · refine ⟨0, ⟨fun _ => decide_eq_true (Or.inr c), fun _ => rfl⟩, ?_⟩
        by_cases q : f = 0
        · rw [if_pos q, e402_52]
        · rw [if_neg q, if_pos c, e402_52]
      · by_cases q : f = 0
        · refine ⟨0, ⟨fun _ => (hf c).mp q, fun _ => rfl⟩, ?_⟩
          rw [if_pos q, e402_52]
        · refine ⟨1, ⟨fun y => absurd y (by decide), fun y => absurd ((hf c).mpr y) q⟩, ?_⟩
          rw [if_neg q, if_neg c]
    obtain ⟨f', hf', e32⟩ := e32
    rw [e32, e402_53]
    refine okc_b (T395 h hf' (fDb w) (app_l1 hl)) fun τ y => ?_
    simp only [Option.bind_some, Option.toList_some, Option.toList_none, List.cons_append, List.nil_append]
    have hl' := app_len hl
    have h' := y.1
    rw [e402_58]
    by_cases c1 : fC w = 208
    · rw [if_pos c1] at hl' ⊢
      rw [if_neg (fun z => z c1)]
      have e46 : (if ¬ fOp w = 212 then (if ¬ fOp w = 220 then RR (lkB tb402) (B402_96, [some (mR (some 80)), some (mL w), none, some (mI (fOp w)), some (mI f), some (mI (fC w)), some (mI (fD w)), some (mI (fO w))], [mR (some (strK + 36)), mR (some 80)], τ) else RR (lkB tb402) (B402_96, [some (mR (some 80)), some (mL w), none, some (mI (fOp w)), some (mI f), some (mI (fC w)), some (mI (fD w)), some (mI (fO w))], [mR (some (strK + 35)), mR (some 80)], τ)) else RR (lkB tb402) (B402_96, [some (mR (some 80)), some (mL w), none, some (mI (fOp w)), some (mI f), some (mI (fC w)), some (mI (fD w)), some (mI (fO w))], [mR (some (strK + 34)), mR (some 80)], τ)) = RR (lkB tb402) (B402_96, [some (mR (some 80)), some (mL w), none, some (mI (fOp w)), some (mI f), some (mI (fC w)), some (mI (fD w)), some (mI (fO w))], [mR (some (strK + (if fOp w = 212 then 34 else if fOp w = 220 then 35 else 36))), mR (some 80)], τ) := by
        by_cases a1 : fOp w = 212
        · rw [if_neg (fun z => z a1), if_pos a1]
        · rw [if_pos a1, if_neg a1]
          by_cases a2 : fOp w = 220
          · rw [if_neg (fun z => z a2), if_pos a2]
          · rw [if_pos a2, if_neg a2]
      have b3 : (if fOp w = 212 then 34 else if fOp w = 220 then 35 else 36) < stN := by
        repeat' split
        all_goals decide
      rw [e46]
      rw [e402_96]
      refine okc_b (T391 h' b3 (app_l1 hl')) fun τz0 z0 => ?_
      simp only [Option.bind_some, Option.toList_some, Option.toList_none, List.cons_append, List.nil_append]
      have zl0 := app_len hl'
      rw [e402_99, T336]
      simp only [Option.bind_some, Option.toList_some, Option.toList_none, List.cons_append, List.nil_append]
      rw [e402_104]
      refine okc_b (T392 z0.1 (app_l1 zl0)) fun τz1 z1 => ?_
      simp only [Option.bind_some, Option.toList_some, Option.toList_none, List.cons_append, List.nil_append]
      have zl1 := app_len zl0
      rw [e402_108]
      refine okc_b (T390 z1.1 (app_l1 zl1) (by decide)) fun τz2 z2 => ?_
      simp only [Option.bind_some, Option.toList_some, Option.toList_none, List.cons_append, List.nil_append]
      have zl2 := app_len zl1
      rw [e402_114]
      refine okc_b (T395 (b := true) z2.1 (by decide) (fDb w) zl2) fun τz3 z3 => ?_
      simp only [Option.bind_some, Option.toList_some, Option.toList_none, List.cons_append, List.nil_append]
      rw [e402_121]
      exact okc_s (etR_t y (etR_t z0 (etR_t z1 (etR_t z2 (z3)))))
    rw [if_neg c1] at hl' ⊢
    rw [if_pos c1]
    by_cases c2 : fC w = 128
    · rw [if_pos c2] at hl' ⊢
      rw [if_neg (fun z => z c2)]
      refine okc_b (T391 h' (by decide) (app_l1 hl')) fun τz0 z0 => ?_
      simp only [Option.bind_some, Option.toList_some, Option.toList_none, List.cons_append, List.nil_append]
      have zl0 := app_len hl'
      rw [e402_137]
      refine okc_b (T395 z0.1 (hf c1) (fDb w) zl0) fun τz1 z1 => ?_
      simp only [Option.bind_some, Option.toList_some, Option.toList_none, List.cons_append, List.nil_append]
      rw [e402_145]
      exact okc_s (etR_t y (etR_t z0 (z1)))
    rw [if_neg c2] at hl' ⊢
    rw [if_pos c2]
    have e187 : (L ++ rgX (decide (fL w = 7 ∨ fC w = 208)) (fD w) ++ (sxT (opJ (fC w) (fO w)) ++ sieT (decide (fL w = 7 ∨ fC w = 208)) w)).length ≤ 24000 → okc (RR (lkB tb402) (B402_191, [some (mR (some 80)), some (mL w), none, some (mI (fOp w)), some (mI f), some (mI (fC w)), some (mI (fD w)), some (mI (fO w))], [], τ)) none (etR σ L (rgX (decide (fL w = 7 ∨ fC w = 208)) (fD w) ++ (sxT (opJ (fC w) (fO w)) ++ sieT (decide (fL w = 7 ∨ fC w = 208)) w))) := fun hl' => by
      rw [opJ_a] at hl' ⊢
      unfold sieT at hl' ⊢
      by_cases q : rgt w
      · rw [if_pos q] at hl' ⊢
        rw [e402_191]
        refine okc_b (T390 h' (app_l1 hl') (by decide)) fun τz0 z0 => ?_
        simp only [Option.bind_some, Option.toList_some, Option.toList_none, List.cons_append, List.nil_append]
        have zl0 := app_len hl'
        rw [e402_197, T403]
        simp only [Option.bind_some, Option.toList_some, Option.toList_none, List.cons_append, List.nil_append]
        rw [e402_205]
        refine okc_b (T391 z0.1 (opR_b _ _) (app_l1 zl0)) fun τz1 z1 => ?_
        simp only [Option.bind_some, Option.toList_some, Option.toList_none, List.cons_append, List.nil_append]
        have zl1 := app_len zl0
        rw [e402_208]
        refine okc_b (T390 z1.1 (app_l1 zl1) (by decide)) fun τz2 z2 => ?_
        simp only [Option.bind_some, Option.toList_some, Option.toList_none, List.cons_append, List.nil_append]
        have zl2 := app_len zl1
        rw [e402_214, if_neg (m8_y q), T334]
        simp only [Option.bind_some, Option.toList_some, Option.toList_none, List.cons_append, List.nil_append]
        rw [e402_228]
        refine okc_b (T395 z2.1 (hf c1) (fSb w) zl2) fun τz3 z3 => ?_
        simp only [Option.bind_some, Option.toList_some, Option.toList_none, List.cons_append, List.nil_append]
        rw [e402_231]
        rw [e402_242]
        exact okc_s (etR_t y (etR_t z0 (etR_t z1 (etR_t z2 (z3)))))
      · rw [if_neg q] at hl' ⊢
        rw [e402_191]
        refine okc_b (T390 h' (app_l1 hl') (by decide)) fun τz0 z0 => ?_
        simp only [Option.bind_some, Option.toList_some, Option.toList_none, List.cons_append, List.nil_append]
        have zl0 := app_len hl'
        rw [e402_197, T403]
        simp only [Option.bind_some, Option.toList_some, Option.toList_none, List.cons_append, List.nil_append]
        rw [e402_205]
        refine okc_b (T391 z0.1 (opR_b _ _) (app_l1 zl0)) fun τz1 z1 => ?_
        simp only [Option.bind_some, Option.toList_some, Option.toList_none, List.cons_append, List.nil_append]
        have zl1 := app_len zl0
        rw [e402_208]
        refine okc_b (T390 z1.1 (app_l1 zl1) (by decide)) fun τz2 z2 => ?_
        simp only [Option.bind_some, Option.toList_some, Option.toList_none, List.cons_append, List.nil_append]
        have zl2 := app_len zl1
        rw [e402_214, if_pos (m8_n q), T336]
        simp only [Option.bind_some, Option.toList_some, Option.toList_none, List.cons_append, List.nil_append]
        rw [e402_239]
        refine okc_b (T393 z2.1 (fIb w) zl2) fun τz3 z3 => ?_
        simp only [Option.bind_some, Option.toList_some, Option.toList_none, List.cons_append, List.nil_append]
        rw [e402_242]
        exact okc_s (etR_t y (etR_t z0 (etR_t z1 (etR_t z2 (z3)))))
    by_cases c3 : fC w = 176
    · rw [if_neg (fun z => z c3)]
      by_cases c4 : fO w = 0
      · rw [if_neg (show ¬ (fC w = 176 ∧ ¬ fO w = 0) from fun z => z.2 c4)] at hl' ⊢
        rw [if_pos c4]
        exact e187 hl'
      · rw [if_pos (show fC w = 176 ∧ ¬ fO w = 0 from ⟨c3, c4⟩)] at hl' ⊢
        rw [if_neg c4]
        refine okc_b (T391 h' (by decide) (app_l1 hl')) fun τz0 z0 => ?_
        simp only [Option.bind_some, Option.toList_some, Option.toList_none, List.cons_append, List.nil_append]
        have zl0 := app_len hl'
        rw [e402_166]
        refine okc_b (T392 z0.1 (app_l1 zl0)) fun τz1 z1 => ?_
        simp only [Option.bind_some, Option.toList_some, Option.toList_none, List.cons_append, List.nil_append]
        have zl1 := app_len zl0
        rw [e402_173]
        refine okc_b (T391 z1.1 (by decide) (app_l1 zl1)) fun τz2 z2 => ?_
        simp only [Option.bind_some, Option.toList_some, Option.toList_none, List.cons_append, List.nil_append]
        have zl2 := app_len zl1
        rw [e402_180, T334]
        simp only [Option.bind_some, Option.toList_some, Option.toList_none, List.cons_append, List.nil_append]
        rw [e402_187]
        refine okc_b (T395 z2.1 (hf c1) (fSb w) zl2) fun τz3 z3 => ?_
        simp only [Option.bind_some, Option.toList_some, Option.toList_none, List.cons_append, List.nil_append]
        rw [e402_190]
        exact okc_s (etR_t y (etR_t z0 (etR_t z1 (etR_t z2 (z3)))))
    · rw [if_neg (show ¬ (fC w = 176 ∧ ¬ fO w = 0) from fun z => c3 z.1)] at hl' ⊢
      rw [if_pos c3]
      exact e187 hl'
  rw [M402, e402_0, m7]
  by_cases q : fL w = 4
  · rw [if_neg (fun z => z q)]
    exact go 1 (by rw [if_pos q])
  · rw [if_pos q]
    exact go 0 (by rw [if_neg q])
theorem T400 (h : otR σ L) (ok : okPl w) (hl : (L ++ prS w).length ≤ 24000) : okc (MM 400 [mR (some 80), mL w] σ) none (etR σ L (prS w)) := by
  have l0 : ¬ fL w = 0 := fun z => by
    unfold okPl at ok
    rw [if_pos z] at ok
    exact ok
  have l8 : 0 ≤ fL w ∧ fL w < 8 := by
    unfold fL
    omega
  unfold prS at hl ⊢
  rw [M400, e400_0, T332]
  simp only [Option.bind_some, Option.toList_some, Option.toList_none, List.cons_append, List.nil_append]
  rw [e400_4, m7]
  by_cases c1 : fL w = 1
  · rw [if_pos c1] at hl ⊢
    rw [if_pos c1]
    have e86 : ∀ τ', ∃ s : Int, (s = 0 ∧ (if fM w = 128 then (115 : Int) else 117) = 117 ∨ s = 1 ∧ (if fM w = 128 then (115 : Int) else 117) = 115) ∧ RR (lkB tb400) (B400_86, [some (mR (some 80)), some (mL w), none, some (mI (fOp w))], [], τ') = RR (lkB tb400) (B400_103, [some (mR (some 80)), some (mL w), none, some (mI (fOp w))], [mI s, mR (some 80)], τ') := fun τ' => by
      rw [e400_86, m224]
      by_cases q : fM w = 128
      · exact ⟨1, Or.inr ⟨rfl, if_pos q⟩, by rw [if_neg (fun z => z q)]⟩
      · exact ⟨0, Or.inl ⟨rfl, if_neg q⟩, by rw [if_pos q]⟩
    rw [T333]
    simp only [Option.bind_some, Option.toList_some, Option.toList_none, List.cons_append, List.nil_append]
    rw [e400_76]
    refine okc_b (T395 (b := true) h (by decide) (fDb w) (app_l1 hl)) fun τz0 z0 => ?_
    simp only [Option.bind_some, Option.toList_some, Option.toList_none, List.cons_append, List.nil_append]
    have zl0 := app_len hl
    rw [e400_79]
    refine okc_b (T391 z0.1 (by decide) (app_l1 zl0)) fun τz1 z1 => ?_
    simp only [Option.bind_some, Option.toList_some, Option.toList_none, List.cons_append, List.nil_append]
    have zl1 := app_len zl0
    obtain ⟨s, hs, e86⟩ := e86 τz1
    rw [e86, e400_103, T334]
    simp only [Option.bind_some, Option.toList_some, Option.toList_none, List.cons_append, List.nil_append]
    rw [e400_108, T335]
    simp only [Option.bind_some, Option.toList_some, Option.toList_none, List.cons_append, List.nil_append]
    rw [e400_112]
    refine okc_b (T397 z1.1 hs (fSb w) zl1) fun τz2 z2 => ?_
    simp only [Option.bind_some, Option.toList_some, Option.toList_none, List.cons_append, List.nil_append]
    rw [e400_115]
    rw [e400_156]
    exact okc_s (etR_t z0 (etR_t z1 (z2)))
  rw [if_neg c1] at hl ⊢
  rw [if_neg c1]
  by_cases c2 : fL w = 2
  · rw [if_pos c2] at hl ⊢
    rw [if_pos c2]
    rw [T333]
    simp only [Option.bind_some, Option.toList_some, Option.toList_none, List.cons_append, List.nil_append]
    rw [e400_125, T335]
    simp only [Option.bind_some, Option.toList_some, Option.toList_none, List.cons_append, List.nil_append]
    rw [e400_129]
    refine okc_b (T397 h (Or.inl ⟨rfl, rfl⟩) (fDb w) (app_l1 hl)) fun τz0 z0 => ?_
    simp only [Option.bind_some, Option.toList_some, Option.toList_none, List.cons_append, List.nil_append]
    have zl0 := app_len hl
    rw [e400_132]
    refine okc_b (T391 z0.1 (by decide) (app_l1 zl0)) fun τz1 z1 => ?_
    simp only [Option.bind_some, Option.toList_some, Option.toList_none, List.cons_append, List.nil_append]
    have zl1 := app_len zl0
    rw [e400_139, T336]
    simp only [Option.bind_some, Option.toList_some, Option.toList_none, List.cons_append, List.nil_append]
    rw [e400_144]
    refine okc_b (T393 z1.1 (fIb w) zl1) fun τz2 z2 => ?_
    simp only [Option.bind_some, Option.toList_some, Option.toList_none, List.cons_append, List.nil_append]
    rw [e400_147]
    rw [e400_156]
    exact okc_s (etR_t z0 (etR_t z1 (z2)))
  rw [if_neg c2] at hl ⊢
  rw [if_neg c2]
  by_cases c3 : fL w = 3
  · have om : okMem w := by
      unfold okPl at ok
      rw [if_neg l0, if_neg (by omega), if_neg (by omega)] at ok
      exact ok
    rw [if_pos c3] at hl ⊢
    rw [if_pos c3]
    refine okc_b (T401 h om c3 hl) fun τz0 z0 => ?_
    simp only [Option.bind_some, Option.toList_some, Option.toList_none, List.cons_append, List.nil_append]
    rw [e400_156]
    exact okc_s (z0)
  rw [if_neg c3] at hl ⊢
  rw [if_neg c3]
  by_cases c4 : fL w = 4
  · rw [if_neg (show ¬ (fL w = 5 ∨ fL w = 6) by omega)] at hl ⊢
    rw [if_pos c4]
    refine okc_b (T402 h (Or.inl c4) hl) fun τz0 z0 => ?_
    simp only [Option.bind_some, Option.toList_some, Option.toList_none, List.cons_append, List.nil_append]
    rw [e400_58]
    rw [e400_156]
    exact okc_s (z0)
  rw [if_neg c4]
  by_cases c5 : fL w = 5
  · rw [if_pos (Or.inl c5)] at hl ⊢
    rw [if_pos c5]
    refine okc_b (T405 h (Or.inl c5) hl) fun τz0 z0 => ?_
    simp only [Option.bind_some, Option.toList_some, Option.toList_none, List.cons_append, List.nil_append]
    rw [e400_67]
    rw [e400_156]
    exact okc_s (z0)
  rw [if_neg c5]
  by_cases c6 : fL w = 6
  · rw [if_pos (Or.inr c6)] at hl ⊢
    rw [if_pos c6]
    refine okc_b (T405 h (Or.inr c6) hl) fun τz0 z0 => ?_
    simp only [Option.bind_some, Option.toList_some, Option.toList_none, List.cons_append, List.nil_append]
    rw [e400_67]
    rw [e400_156]
    exact okc_s (z0)
  rw [if_neg (show ¬ (fL w = 5 ∨ fL w = 6) by omega)] at hl ⊢
  rw [if_neg c6, if_pos (show fL w = 7 by omega)]
  refine okc_b (T402 h (Or.inr (by omega)) hl) fun τz0 z0 => ?_
  simp only [Option.bind_some, Option.toList_some, Option.toList_none, List.cons_append, List.nil_append]
  rw [e400_58]
  rw [e400_156]
  exact okc_s (z0)
theorem pr_f (ok : okPr w w2) : (iL (fI w) &&& iL 4294967295) ||| (w2 &&& iL (-4294967296)) = lUsh w 32 ||| w2 := by
  have e1 : iL (fI w) &&& iL 4294967295 = lUsh w 32 := fI_hi w
  have e2 : w2 &&& iL (-4294967296) = w2 := by
    have h := ok.1.2.2.2
    apply BitVec.eq_of_getLsbD_eq
    intro i hi
    have g := congrArg (fun z => BitVec.getLsbD z i) h
    have nF : iL (-4294967296) = ~~~ cF := by decide
    rw [nF]
    simp only [BitVec.getLsbD_and, BitVec.getLsbD_not, BitVec.getLsbD_zero] at g ⊢
    rw [decide_eq_true hi]
    cases a : w2.getLsbD i
    · rfl
    · rw [a] at g
      rw [show cF.getLsbD i = false from g]
      rfl
  rw [e1, e2]
theorem T399 (h : otR σ L) (ok : okPr w w2) (hl : (L ++ prP w w2).length ≤ 24000) : okc (MM 399 [mR (some 80), mL w, mL w2] σ) none (etR σ L (prP w w2)) := by
  unfold prP at hl ⊢
  rw [M399, e399_0]
  by_cases c : fS w = 1
  · rw [if_pos c] at hl ⊢
    rw [T333]
    simp only [Option.bind_some, Option.toList_some, Option.toList_none, List.cons_append, List.nil_append]
    rw [e399_6]
    refine okc_b (T395 (b := true) h (by decide) (fDb w) (app_l1 hl)) fun τz0 z0 => ?_
    simp only [Option.bind_some, Option.toList_some, Option.toList_none, List.cons_append, List.nil_append]
    have zl0 := app_len hl
    rw [e399_9, T334]
    simp only [Option.bind_some, Option.toList_some, Option.toList_none, List.cons_append, List.nil_append]
    rw [e399_13, if_neg (fun z => z c)]
    refine okc_b (T391 z0.1 (by decide) (app_l1 zl0)) fun τz1 z1 => ?_
    simp only [Option.bind_some, Option.toList_some, Option.toList_none, List.cons_append, List.nil_append]
    have zl1 := app_len zl0
    rw [e399_24, T336]
    simp only [Option.bind_some, Option.toList_some, Option.toList_none, List.cons_append, List.nil_append]
    rw [e399_29]
    refine okc_b (T392 z1.1 zl1) fun τz2 z2 => ?_
    simp only [Option.bind_some, Option.toList_some, Option.toList_none, List.cons_append, List.nil_append]
    rw [e399_33]
    exact okc_s (etR_t z0 (etR_t z1 (z2)))
  · rw [if_neg c] at hl ⊢
    rw [T333]
    simp only [Option.bind_some, Option.toList_some, Option.toList_none, List.cons_append, List.nil_append]
    rw [e399_6]
    refine okc_b (T395 (b := true) h (by decide) (fDb w) (app_l1 hl)) fun τz0 z0 => ?_
    simp only [Option.bind_some, Option.toList_some, Option.toList_none, List.cons_append, List.nil_append]
    have zl0 := app_len hl
    rw [e399_9, T334]
    simp only [Option.bind_some, Option.toList_some, Option.toList_none, List.cons_append, List.nil_append]
    rw [e399_13, if_pos c]
    refine okc_b (T391 z0.1 (by decide) (app_l1 zl0)) fun τz1 z1 => ?_
    simp only [Option.bind_some, Option.toList_some, Option.toList_none, List.cons_append, List.nil_append]
    have zl1 := app_len zl0
    rw [e399_41, T336]
    simp only [Option.bind_some, Option.toList_some, Option.toList_none, List.cons_append, List.nil_append]
    rw [e399_46, pr_f ok]
    refine okc_b (T392 z1.1 (app_l1 zl1)) fun τz2 z2 => ?_
    simp only [Option.bind_some, Option.toList_some, Option.toList_none, List.cons_append, List.nil_append]
    have zl2 := app_len zl1
    rw [e399_60]
    refine okc_b (T391 z2.1 (by decide) zl2) fun τz3 z3 => ?_
    simp only [Option.bind_some, Option.toList_some, Option.toList_none, List.cons_append, List.nil_append]
    rw [e399_67]
    exact okc_s (etR_t z0 (etR_t z1 (etR_t z2 (z3))))
end PRT3
