-- FILE 96.ctxt
/-! ===== texts: their length, a char ===== -/
section CTXT
variable {σ : MS} {j i : Nat}
theorem kd_tx (h : j < stN) : kd σ (strK + j) = (50, 0) := by
  have e : stN = 117 := rfl
  have e1 : strK = 2000000 := rfl
  have e2 : fxN = 153 := rfl
  have e3 : scrK = 1000000 := rfl
  unfold kd
  rw [if_neg (by omega), if_neg (by omega), if_pos (by omega)]
theorem kd_tb (h : j < stN) : kd σ (strB + j) = (8, (strAt j).length) := by
  have e : stN = 117 := rfl
  have e1 : strK = 2000000 := rfl
  have e2 : fxN = 153 := rfl
  have e3 : scrK = 1000000 := rfl
  have e4 : strB = 3000000 := rfl
  unfold kd
  rw [if_neg (by omega), if_neg (by omega), if_neg (by omega), if_pos (by omega), Nat.add_sub_cancel_left]
theorem ao_tx (h : j < stN) : ao σ 30 (some (strK + j)) := ⟨rfl, by show (kd σ (strK + j)).1 = 50; rw [kd_tx h]⟩
theorem tb_tx : strB + (strK + j - strK) = strB + j := by rw [Nat.add_sub_cancel_left]
set_option maxRecDepth 100000 in
theorem x575_0 {a : Nat} : RR (lkB tb575) (B575_0, [some (mR (some a))], [], σ) = (if ao σ 30 (some a) then (if (-128 : Int) ≤ 0 ∧ (0 : Int) < 128 then some (some (mI 0), σ) else none) else none) := (RR_nop _ _ _ _ _ _).trans ((RR_eS _ 9 _).trans rfl)
set_option maxRecDepth 100000 in
theorem x576_0 {a : Nat} : RR (lkB tb576) (B576_0, [some (mR (some a))], [], σ) = (if ao σ 30 (some a) then (if bl 1 then some (some (mI 1), σ) else none) else none) := (RR_nop _ _ _ _ _ _).trans ((RR_eS _ 9 _).trans rfl)
set_option maxRecDepth 100000 in
theorem x577_0 {b : Nat} {i : Int} : RR (lkB tb577) (B577_0, [some (mR (some b)), some (mI i)], [], σ) = (if Option.isSome (some b) = true ∧ (kd σ b).1 = 8 then (if (0 ≤ i ∧ i < ((kd σ b).2 : Int)) ∧ stW [] ≤ 8 then (if Option.isSome (some b) = true ∧ ab σ 8 b i then (if 0 ≤ iAnd (((strAt (b - strB)).getD i.toNat 0 : Nat) : Int) 255 % 65536 ∧ iAnd (((strAt (b - strB)).getD i.toNat 0 : Nat) : Int) 255 % 65536 < 65536 then some (some (mI (iAnd (((strAt (b - strB)).getD i.toNat 0 : Nat) : Int) 255 % 65536)), σ) else none) else none) else none) else none) := (RR_nop _ _ _ _ _ _).trans ((RR_eS _ 14 _).trans rfl)
def R573 : List Ins := (.arraylength, 4, 8, 0, 0, []) :: (.aload_n 0, 5, 0, 0, 0, []) :: (.invokevirtual 335, 6, 575, 0, 30, []) :: B573_9
set_option maxRecDepth 100000 in
theorem y573_0 {a b : Nat} : RR (lkB tb573) (R573, [some (mR (some a))], [mR (some b)], σ) = (if Option.isSome (some b) = true ∧ (kd σ b).1 = 8 then (if ao σ 30 (some a) then (MM 575 [mR (some a)] σ).bind fun q => RR (lkB tb573) (B573_9, [some (mR (some a))], q.1.toList ++ [mI ((kd σ b).2 : Int)], q.2) else none) else none) := (RR_eS _ 5 _).trans rfl
set_option maxRecDepth 100000 in
theorem x573_0 {a : Nat} : RR (lkB tb573) (B573_0, [some (mR (some a))], [], σ) = (if ao σ 30 (some a) then RR (lkB tb573) (R573, [some (mR (some a))], [mR (some (strB + (a - strK)))], σ) else none) := (RR_nop _ _ _ _ _ _).trans ((RR_eS _ 2 _).trans rfl)
set_option maxRecDepth 100000 in
theorem x574_0 {a : Nat} {i : Int} : RR (lkB tb574) (B574_0, [some (mR (some a)), some (mI i)], [], σ) = (if ao σ 30 (some a) then (MM 576 [mR (some a)] σ).bind fun q => RR (lkB tb574) (B574_4, [some (mR (some a)), some (mI i)], q.1.toList ++ [], q.2) else none) := (RR_nop _ _ _ _ _ _).trans ((RR_eS _ 7 _).trans rfl)
set_option maxRecDepth 100000 in
theorem x574_4 {a : Nat} {i : Int} : RR (lkB tb574) (B574_4, [some (mR (some a)), some (mI i)], [mI 1], σ) = (if ao σ 30 (some a) then (MM 577 [mR (some (strB + (a - strK))), mI i] σ).bind fun q => RR (lkB tb574) (B574_15, [some (mR (some a)), some (mI i)], q.1.toList ++ [], q.2) else none) := (RR_nop _ _ _ _ _ _).trans ((RR_eS _ 7 _).trans rfl)
set_option maxRecDepth 100000 in
theorem x574_15 {a : Nat} {i y : Int} : RR (lkB tb574) (B574_15, [some (mR (some a)), some (mI i)], [mI y], σ) = (if 0 ≤ y ∧ y < 65536 then some (some (mI y), σ) else none) := (RR_nop _ _ _ _ _ _).trans ((RR_eS _ 3 _).trans rfl)
theorem T575t (h : j < stN) : MM 575 [mR (some (strK + j))] σ = some (some (mI 0), σ) := by
  rw [M575, x575_0, if_pos (ao_tx h), if_pos (by decide)]
theorem T576t (h : j < stN) : MM 576 [mR (some (strK + j))] σ = some (some (mI 1), σ) := by
  rw [M576, x576_0, if_pos (ao_tx h), if_pos (Or.inr rfl)]
theorem iShr_0 (x : Int) : iShr x 0 = x := by
  unfold iShr
  show x / 2 ^ 0 = x
  rw [show (2 : Int) ^ 0 = 1 from rfl, Int.ediv_one]
theorem T573t (h : j < stN) : MM 573 [mR (some (strK + j))] σ = some (some (mI (((strAt j).length : Nat) : Int)), σ) := by
  have k8 : Option.isSome (some (strB + j)) = true ∧ (kd σ (strB + j)).1 = 8 := ⟨rfl, by rw [kd_tb h]⟩
  rw [M573, x573_0, if_pos (ao_tx h), tb_tx, y573_0, if_pos k8, if_pos (ao_tx h), T575t h, kd_tb h]
  show RR (lkB tb573) (B573_9, [some (mR (some (strK + j)))], [mI 0, mI (((strAt j).length : Nat) : Int)], σ) = _
  rw [e573_9, iShr_0]
theorem T577t (h : j < stN) (hi : i < (strAt j).length) (hc : (strAt j).getD i 0 < 256) : MM 577 [mR (some (strB + j)), mI (i : Int)] σ = some (some (mI (((strAt j).getD i 0 : Nat) : Int)), σ) := by
  have a : Option.isSome (some (strB + j)) = true ∧ (kd σ (strB + j)).1 = 8 := ⟨rfl, by rw [kd_tb h]⟩
  have b : (0 ≤ (i : Int) ∧ (i : Int) < ((kd σ (strB + j)).2 : Int)) ∧ stW [] ≤ 8 := ⟨⟨by omega, by rw [kd_tb h]; show (i : Int) < (((strAt j).length : Nat) : Int); omega⟩, by decide⟩
  have c : Option.isSome (some (strB + j)) = true ∧ ab σ 8 (strB + j) (i : Int) := ⟨rfl, by rw [kd_tb h], b.1.1, b.1.2⟩
  have e : iAnd (((strAt j).getD i 0 : Nat) : Int) 255 = (((strAt j).getD i 0 : Nat) : Int) := by
    have e0 : iAnd (((strAt j).getD i 0 : Nat) : Int) 255 = (((strAt j).getD i 0 : Nat) : Int) % 256 := iAnd_mask (k := 8) (by omega)
    rw [e0]
    omega
  rw [M577, x577_0, if_pos a, if_pos b, if_pos c, Nat.add_sub_cancel_left, Int.toNat_natCast, e]
  generalize (strAt j).getD i 0 = v at *
  have m : (v : Int) % 65536 = (v : Int) := by omega
  rw [m, if_pos (by omega)]
theorem T574t (h : j < stN) (hi : i < (strAt j).length) (hc : (strAt j).getD i 0 < 256) : MM 574 [mR (some (strK + j)), mI (i : Int)] σ = some (some (mI (((strAt j).getD i 0 : Nat) : Int)), σ) := by
  rw [M574, x574_0, if_pos (ao_tx h), T576t h]
  show RR (lkB tb574) (B574_4, [some (mR (some (strK + j))), some (mI (i : Int))], [mI 1], σ) = _
  rw [x574_4, if_pos (ao_tx h), tb_tx, T577t h hi hc]
  show RR (lkB tb574) (B574_15, [some (mR (some (strK + j))), some (mI (i : Int))], [mI (((strAt j).getD i 0 : Nat) : Int)], σ) = _
  rw [x574_15, if_pos (by omega)]
theorem T282 {h : Int} : MM 282 [mI h] σ = some (some (mR (some (strK + (if h = 1 ∨ h = 3 then 79 else if h = 2 then 80 else if h = 6 then 81 else if h = 12 then 82 else if h = 26 then 83 else if h = 44 then 84 else if h = 131 then 85 else if h = 132 ∨ h = 133 then 86 else 87)))), σ) := by
  rw [M282, e282_0]
  by_cases c1 : h = 1
  · rw [if_pos c1, if_pos (Or.inl c1)]
  · rw [if_neg c1]
    by_cases c2 : h = 2
    · rw [if_pos c2, if_neg (by omega), if_pos c2]
    · rw [if_neg c2]
      by_cases c3 : h = 3
      · rw [if_pos c3, if_pos (Or.inr c3)]
      · rw [if_neg c3, if_neg (show ¬ (h = 1 ∨ h = 3) by omega), if_neg c2]
        by_cases c6 : h = 6
        · rw [if_pos c6, if_pos c6]
        · rw [if_neg c6, if_neg c6]
          by_cases c12 : h = 12
          · rw [if_pos c12, if_pos c12]
          · rw [if_neg c12, if_neg c12]
            by_cases c26 : h = 26
            · rw [if_pos c26, if_pos c26]
            · rw [if_neg c26, if_neg c26]
              by_cases c44 : h = 44
              · rw [if_pos c44, if_pos c44]
              · rw [if_neg c44, if_neg c44]
                by_cases c131 : h = 131
                · rw [if_pos c131, if_pos c131]
                · rw [if_neg c131, if_neg c131]
                  by_cases c132 : h = 132
                  · rw [if_pos c132, if_pos (Or.inl c132)]
                  · rw [if_neg c132]
                    by_cases c133 : h = 133
                    · rw [if_pos c133, if_pos (Or.inr c133)]
                    · rw [if_neg c133, if_neg (by omega)]
theorem st_79 : strAt 79 = [49, 109, 50, 107] := by decide +kernel
theorem st_80 : strAt 80 = [49, 109, 50, 107, 51, 118, 52, 110] := by decide +kernel
theorem st_81 : strAt 81 = [50, 116, 49, 98] := by decide +kernel
theorem st_82 : strAt 82 = [49, 99, 50, 112, 51, 110] := by decide +kernel
theorem st_83 : strAt 83 = [49, 99, 50, 110, 52, 119, 51, 115] := by decide +kernel
theorem st_84 : strAt 84 = [49, 99, 50, 110] := by decide +kernel
theorem st_85 : strAt 85 = [49, 114, 50, 105, 51, 110] := by decide +kernel
theorem st_86 : strAt 86 = [49, 104, 50, 110] := by decide +kernel
theorem st_87 : strAt 87 = [] := by decide +kernel
end CTXT
-- FILE 97.chl2
/-! ===== the class's helpers: what the state is behind one ===== -/
section CHL2
variable {τ σ ρ : MS} {k j : Nat} {E : EV} {w : B64} {S : ST} {t n h : Int}
theorem iL_tn (x : B64) : iL ((x.toNat : Nat) : Int) = x := by
  unfold iL
  rw [BitVec.ofInt_natCast, BitVec.ofNat_toNat, BitVec.setWidth_eq]
theorem iL_ti (x : B64) : iL x.toInt = x := by
  unfold iL
  exact BitVec.ofInt_toInt
theorem wide8 : wideN 8 = anyN := rfl
def ansJ (S : ST) (h n t : Int) : JR :=
  if h = 1 then (0, some (n, wV (unsA S) 0 (mkV 6 (vw (rgV S 1)) (t + 1))), none, t + 1)
  else if h = 131 then (if (sH S).length = 64 then (12, none, none, t) else (0, some (n, ((wV (unsA S) 0 (mkV 10 ((jV (vn (rgV S 2))).toInt) (t + 1))).1, (wV (unsA S) 0 (mkV 10 ((jV (vn (rgV S 2))).toInt) (t + 1))).2.1, sB S, sH S ++ [t + 1])), none, t + 1))
  else (0, some (n, wV (unsA (hlpS S h)) 0 (numV (if h = 7 then wideN 4 else anyN))), none, t)
/-- what a helper's arguments are known to be -/
def argJ (E : EV) (S : ST) (h : Int) : Prop := (h = 1 → vk (rgV S 1) = 4) ∧ (h = 26 → vk (rgV S 3) = 3 ∧ room E (rgV S 3) 0 (jB (vn (rgV S 4))).toInt ∧ ¬ 128#64 < jB (vn (rgV S 4))) ∧ (h = 131 → vk (rgV S 2) = 1)
theorem T290 (H : SC σ k j E w) (hS : CSt σ k S) (P : PX S E t) (a : vk (rgV S 3) = 3 ∧ room E (rgV S 3) 0 (jB (vn (rgV S 4))).toInt ∧ ¬ 128#64 < jB (vn (rgV S 4))) : okc (MM 290 [mR (some 40)] σ) none (fun τ => CSt τ k (hlpS S 26) ∧ crq τ σ k) := by
  obtain ⟨k3, rm, b128⟩ := a
  have F := PX_F P
  have r3 : 3 ≤ 10 := by decide
  have r4 : 4 ≤ 10 := by decide
  have p3 := pR_lt F r3
  have p4 := pR_lt F r4
  have hv3 := cAt_rg hS F.1 r3
  have hv4 := cAt_rg hS F.1 r4
  have fr := okV_f P.1 r3 k3
  have t12a : MM 212 [mR (some k), mI 3] σ = some (some (mI ((pR S 3 : Nat) : Int)), σ) := T212r H hS P r3
  have t12b : MM 212 [mR (some k), mI 4] σ = some (some (mI ((pR S 4 : Nat) : Int)), σ) := T212r H hS P r4
  have a3 : pR S 4 + 3 < 100000 := by omega
  have a4 : pR S 4 + 4 < 100000 := by omega
  have a7 : pR S 3 + 7 < 100000 := by omega
  have a8 : pR S 3 + 8 < 100000 := by omega
  have g3 := gSt (sc_k H) (show pR S 4 + 3 < 1188 by omega)
  have g4 := gSt (sc_k H) (show pR S 4 + 4 < 1188 by omega)
  have g7 := gSt (sc_k H) (show pR S 3 + 7 < 1188 by omega)
  have g8 := gSt (sc_k H) (show pR S 3 + 8 < 1188 by omega)
  obtain ⟨B, hB⟩ : ∃ B, B = jB (vn (rgV S 4)) := ⟨_, rfl⟩
  obtain ⟨A, hA⟩ : ∃ A, A = jA (vn (rgV S 4)) := ⟨_, rfl⟩
  have u3 : gL σ (k + 1 + 0) (pR S 4 + 3) = A := by rw [rd_3 hv4, hA]
  have u4 : gL σ (k + 1 + 0) (pR S 4 + 4) = B := by rw [rd_4 hv4, hB]
  have e26 : hlpS S 26 = putB S (vw (rgV S 3)).toNat (vo (rgV S 3) + 128).toNat B.toNat (if B < A then B.toNat else A.toNat) := by
    rw [hA, hB]
    exact if_pos rfl
  rw [e26]
  rw [← hB] at rm b128
  have bn : B.toNat ≤ 128 := by
    rw [BitVec.lt_def] at b128
    exact Nat.le_of_not_lt b128
  have bi : B.toInt = (B.toNat : Int) := by
    rw [BitVec.toInt_eq_toNat_cond, if_pos (by omega)]
  have rm3 : -128 ≤ vo (rgV S 3) + 0 ∧ vo (rgV S 3) + 0 ≤ -B.toInt := by
    have rm' := rm
    unfold room at rm'
    rw [if_pos k3] at rm'
    exact rm'
  obtain ⟨f, hf⟩ : ∃ f : Nat, vw (rgV S 3) = (f : Int) := ⟨(vw (rgV S 3)).toNat, by omega⟩
  obtain ⟨b, hb⟩ : ∃ b : Nat, vo (rgV S 3) + 128 = (b : Int) := ⟨(vo (rgV S 3) + 128).toNat, by omega⟩
  obtain ⟨c, hc⟩ : ∃ c : Nat, c = (if B < A then B.toNat else A.toNat) := ⟨_, rfl⟩
  have cl : c ≤ B.toNat := by
    rw [hc]
    split
    · exact Nat.le_refl _
    · rename_i z
      rw [BitVec.lt_def] at z
      omega
  have ic : (if B < A then B else A) = iL (c : Int) := by
    rw [hc]
    split
    · exact (iL_tn B).symm
    · exact (iL_tn A).symm
  have iB : iL ((B.toNat : Nat) : Int) = B := iL_tn B
  obtain ⟨τ, t27, c27, q27⟩ := T227 (f := f) (b := b) (n := B.toNat) (c := c) (a := vo (rgV S 3)) (sc_k H) hS P.2.1 (fun i hi => (okW_S P.1 P.2.1 P.2.2.1 P.2.2.2 hi).1) F.2 (by omega) hb (by omega) cl
  rw [iB] at t27
  have u8 : gL σ (k + 1 + 0) (pR S 3 + 8) = iL (f : Int) := by rw [rd_8 hv3, hf]
  have u7 := rd_7 hv3
  rw [← hc, hf, hb, Int.toNat_natCast, Int.toNat_natCast]
  refine okc_o (τ := τ) ?_ ⟨c27, q27⟩
  have s58 : MM 290 [mR (some 40)] σ = RR (lkB tb290) (B290_58, [some (mR (some 40)), some (mI ((pR S 3 : Nat) : Int)), some (mI ((pR S 4 : Nat) : Int)), some (mL A), none, some (mL B), none, none, none], [mL (iL (c : Int))], σ) := by
    rw [← ic]
    by_cases z : B < A
    · rw [if_pos z]
      simp only [M290, e290_0, e290_8, e290_17, e290_49, Option.getD_some, Option.bind_some, Option.toList_some, Option.toList_none, List.cons_append, List.nil_append, and_self, and_true, true_and, false_and, and_false, ite_self, not_true_eq_false, not_false_eq_true, reduceIte, Nat.reduceEqDiff, ab_I, ab_L, ab_R, ao_I, ao_L, ao_R, gL_sL, gI_sI, gR_sR, gI_sL, gI_sR, gL_sI, gL_sR, gR_sI, gR_sL, sc_h H, sc_ao H, t12a, t12b, wp3 a3, g3, wp4 a4, g4, Int.toNat_natCast, u3, u4, T17, b2_0', eq_true z]
    · rw [if_neg z]
      simp only [M290, e290_0, e290_8, e290_17, e290_49, Option.getD_some, Option.bind_some, Option.toList_some, Option.toList_none, List.cons_append, List.nil_append, and_self, and_true, true_and, false_and, and_false, ite_self, not_true_eq_false, not_false_eq_true, reduceIte, Nat.reduceEqDiff, ab_I, ab_L, ab_R, ao_I, ao_L, ao_R, gL_sL, gI_sI, gR_sR, gI_sL, gI_sR, gL_sI, gL_sR, gR_sI, gR_sL, sc_h H, sc_ao H, t12a, t12b, wp3 a3, g3, wp4 a4, g4, Int.toNat_natCast, u3, u4, T17, b2_0', eq_false z]
  rw [s58]
  simp only [e290_58, e290_95, Option.getD_some, Option.bind_some, Option.toList_some, Option.toList_none, List.cons_append, List.nil_append, and_self, and_true, true_and, false_and, and_false, ite_self, not_true_eq_false, not_false_eq_true, reduceIte, Nat.reduceEqDiff, ab_I, ab_L, ab_R, ao_I, ao_L, ao_R, gL_sL, gI_sI, gR_sR, gI_sL, gI_sR, gL_sI, gL_sR, gR_sI, gR_sL, sc_h H, sc_ao H, wp7 a7, g7, wp8 a8, g8, Int.toNat_natCast, u7, u8, t27]
theorem L289a (H : SC σ k j E w) (hS : CSt σ k S) (P : PX S E t) (a : argJ E S h) : ∃ τ tg, MM 289 [mR (some 40), mI h] σ = RR (lkB tb289) (B289_104, [some (mR (some 40)), some (mI h), some (mI ((pR S 1 : Nat) : Int)), some (mI ((pR S 2 : Nat) : Int)), some (mI tg), some (mI (vw (rgV S 1) % 8)), some (mL (gL σ (k + 1 + 0) (pR S 2 + 1))), none, none], [], τ) ∧ CSt τ k (hlpS S h) ∧ csq τ σ k := by
  have F := PX_F P
  have r1 : 1 ≤ 10 := by decide
  have r2 : 2 ≤ 10 := by decide
  have p1 := pR_lt F r1
  have p2 := pR_lt F r2
  have hv1 := cAt_rg hS F.1 r1
  have wv := (okW_r P r1).2.1
  have t12a : MM 212 [mR (some k), mI 1] σ = some (some (mI ((pR S 1 : Nat) : Int)), σ) := T212r H hS P r1
  have t12b : MM 212 [mR (some k), mI 2] σ = some (some (mI ((pR S 2 : Nat) : Int)), σ) := T212r H hS P r2
  have a10 : pR S 1 + 10 < 100000 := by omega
  have a1 : pR S 2 + 1 < 100000 := by omega
  have g10 := gSt (sc_k H) (show pR S 1 + 10 < 1188 by omega)
  have g1 := gSt (sc_k H) (show pR S 2 + 1 < 1188 by omega)
  have lt : lI (iL (vt (rgV S 1))) = vt (rgV S 1) := lIi (by omega) (by omega)
  have t85 := T285 H hS P
  have hX := okX_of P.1 P.2.1 P.2.2.1 P.2.2.2
  have s37 : MM 289 [mR (some 40), mI h] σ = RR (lkB tb289) (B289_37, [some (mR (some 40)), some (mI h), some (mI ((pR S 1 : Nat) : Int)), some (mI ((pR S 2 : Nat) : Int)), some (mI (vt (rgV S 1))), none, none, none, none], [mI (vw (rgV S 1) % 8)], σ) := by
    simp only [M289, e289_0, e289_8, e289_17, Option.getD_some, Option.bind_some, Option.toList_some, Option.toList_none, List.cons_append, List.nil_append, and_self, and_true, true_and, false_and, and_false, ite_self, not_true_eq_false, not_false_eq_true, reduceIte, Nat.reduceEqDiff, ab_I, ab_L, ab_R, ao_I, ao_L, ao_R, gL_sL, gI_sI, gR_sR, gI_sL, gI_sR, gL_sI, gL_sR, gR_sI, gR_sL, sc_h H, sc_ao H, t12a, t12b, wp10 a10, g10, Int.toNat_natCast, rd_10 hv1, lt, t85]
  rw [s37]
  by_cases c26 : h = 26
  · obtain ⟨τ, t90, c90, q90⟩ := T290 H hS P (a.2.1 c26)
    rw [c26]
    refine ⟨τ, vt (rgV S 1), ?_, c90, csq_c q90⟩
    simp only [e289_37, e289_62, Option.getD_some, Option.bind_some, Option.toList_some, Option.toList_none, List.cons_append, List.nil_append, and_self, and_true, true_and, false_and, and_false, ite_self, not_true_eq_false, not_false_eq_true, reduceIte, Nat.reduceEqDiff, ab_I, ab_L, ab_R, ao_I, ao_L, ao_R, gL_sL, gI_sI, gR_sR, gI_sL, gI_sR, gL_sI, gL_sR, gR_sI, gR_sL, sc_h H, sc_ao H, wp1 a1, g1, Int.toNat_natCast, Int.reduceEq, t90]
  · by_cases c44 : h = 44
    · obtain ⟨τ, t32, c32, q32⟩ := T232 (sc_k H) hS F.2 hX
      rw [c44]
      refine ⟨τ, vt (rgV S 1), ?_, c32, csq_c q32⟩
      simp only [e289_37, e289_78, Option.getD_some, Option.bind_some, Option.toList_some, Option.toList_none, List.cons_append, List.nil_append, and_self, and_true, true_and, false_and, and_false, ite_self, not_true_eq_false, not_false_eq_true, reduceIte, Nat.reduceEqDiff, ab_I, ab_L, ab_R, ao_I, ao_L, ao_R, gL_sL, gI_sI, gR_sR, gI_sL, gI_sR, gL_sI, gL_sR, gR_sI, gR_sL, sc_h H, sc_ao H, wp1 a1, g1, Int.toNat_natCast, Int.reduceEq, t32]
    · by_cases c3 : h = 132 ∨ h = 133
      · obtain ⟨τ, t33, c33, q33⟩ := T233 (t := vt (rgV S 1)) (sc_k H) hS F.2 hX P.1.2.2.2.2.2.1 (by omega)
        have e : hlpS S h = allV (relH S (vt (rgV S 1))) (recV (vt (rgV S 1))) := by
          unfold hlpS
          rw [if_neg c26, if_neg c44, if_pos c3]
        rw [e]
        refine ⟨τ, vt (rgV S 1), ?_, c33, q33⟩
        rcases c3 with c | c
        · rw [c]
          simp only [e289_37, e289_95, Option.getD_some, Option.bind_some, Option.toList_some, Option.toList_none, List.cons_append, List.nil_append, and_self, and_true, true_and, false_and, and_false, ite_self, not_true_eq_false, not_false_eq_true, reduceIte, Nat.reduceEqDiff, ab_I, ab_L, ab_R, ao_I, ao_L, ao_R, gL_sL, gI_sI, gR_sR, gI_sL, gI_sR, gL_sI, gL_sR, gR_sI, gR_sL, sc_h H, sc_ao H, wp1 a1, g1, Int.toNat_natCast, Int.reduceEq, t33]
        · rw [c]
          simp only [e289_37, e289_95, Option.getD_some, Option.bind_some, Option.toList_some, Option.toList_none, List.cons_append, List.nil_append, and_self, and_true, true_and, false_and, and_false, ite_self, not_true_eq_false, not_false_eq_true, reduceIte, Nat.reduceEqDiff, ab_I, ab_L, ab_R, ao_I, ao_L, ao_R, gL_sL, gI_sI, gR_sR, gI_sL, gI_sR, gL_sI, gL_sR, gR_sI, gR_sL, sc_h H, sc_ao H, wp1 a1, g1, Int.toNat_natCast, Int.reduceEq, t33]
      · have e : hlpS S h = S := by
          unfold hlpS
          rw [if_neg c26, if_neg c44, if_neg c3]
        have n2 : ¬ h = 132 := fun z => c3 (Or.inl z)
        have n3 : ¬ h = 133 := fun z => c3 (Or.inr z)
        rw [e]
        refine ⟨σ, vt (rgV S 1), ?_, hS, csq_r σ k⟩
        simp only [e289_37, Option.getD_some, Option.bind_some, Option.toList_some, Option.toList_none, List.cons_append, List.nil_append, and_self, and_true, true_and, false_and, and_false, ite_self, not_true_eq_false, not_false_eq_true, reduceIte, Nat.reduceEqDiff, ab_I, ab_L, ab_R, ao_I, ao_L, ao_R, gL_sL, gI_sI, gR_sR, gI_sL, gI_sR, gL_sI, gL_sR, gR_sI, gR_sL, sc_h H, sc_ao H, wp1 a1, g1, Int.toNat_natCast, eq_false c26, eq_false c44, eq_false n2, eq_false n3]
theorem sF_hlp : sF (hlpS S h) = sF S := by
  unfold hlpS
  split
  · rfl
  · split
    · rfl
    · split <;> rfl
theorem T289 (H : SC σ k j E w) (hS : CSt σ k S) (P : PX S E t) (ht : gI σ 40 8 = t) (h4 : gI σ 40 4 = n) (h3 : gI σ 40 3 = 0) (a : argJ E S h) : okc (MM 289 [mR (some 40), mI h] σ) (some (mI (ansJ S h n t).1)) (fun τ => spj σ τ k j (ansJ S h n t)) := by
  have F := PX_F P
  have sc := sc_c H
  obtain ⟨τ0, tg, s104, c0, q0⟩ := L289a H hS P a
  rw [s104]
  have F0 : 1 ≤ sF (hlpS S h) ∧ sF (hlpS S h) ≤ 4 := by rw [sF_hlp]; exact F
  have H0 := SC_q (sfq_s (j := j) q0) H
  obtain ⟨τ1, t21, c1, q1⟩ := T221 (sc_k H0) F0 c0
  have H1 := SC_q (sfq_c (j := j) q1) H0
  have Q1 : sfq τ1 σ k j := sfq_t (sfq_c q1) (sfq_s q0)
  have f1 : gI τ1 k 3 = (sF S : Int) := c1.1.1.trans (by show ((sF (hlpS S h) : Nat) : Int) = _; rw [sF_hlp])
  have t12 : MM 212 [mR (some k), mI 0] τ1 = some (some (mI ((pR S 0 : Nat) : Int)), τ1) := T212 (r := 0) (sc_k H1) f1 F (by decide)
  have i40 : ∀ s, gI τ1 40 s = gI σ 40 s := fun s => (q1.1 _ _).trans (q0.1 _ _ (by omega) (by omega) (by omega))
  have u8 : gI τ1 40 8 = t := (i40 8).trans ht
  have u4 : gI τ1 40 4 = n := (i40 4).trans h4
  have u3 : gI τ1 40 3 = 0 := (i40 3).trans h3
  have p0 := pR_lt F (show 0 ≤ 10 by decide)
  have tl := P.2.2.2
  have t0 : 0 ≤ t := P.1.2.2.2.2.2.2
  have wt : w32 (gI τ1 40 8 + 1) = t + 1 := by rw [u8]; exact w32_i (by omega) (by omega)
  have s119 : RR (lkB tb289) (B289_104, [some (mR (some 40)), some (mI h), some (mI ((pR S 1 : Nat) : Int)), some (mI ((pR S 2 : Nat) : Int)), some (mI tg), some (mI (vw (rgV S 1) % 8)), some (mL (gL σ (k + 1 + 0) (pR S 2 + 1))), none, none], [], τ0) = RR (lkB tb289) (B289_119, [some (mR (some 40)), some (mI h), some (mI ((pR S 1 : Nat) : Int)), some (mI ((pR S 2 : Nat) : Int)), some (mI tg), some (mI (vw (rgV S 1) % 8)), some (mL (gL σ (k + 1 + 0) (pR S 2 + 1))), none, none], [mI ((pR S 0 : Nat) : Int)], τ1) := by
    simp only [e289_104, e289_111, Option.getD_some, Option.bind_some, Option.toList_some, Option.toList_none, List.cons_append, List.nil_append, and_self, and_true, true_and, false_and, and_false, ite_self, not_true_eq_false, not_false_eq_true, reduceIte, Nat.reduceEqDiff, ab_I, ab_L, ab_R, ao_I, ao_L, ao_R, gL_sL, gI_sI, gR_sR, gI_sL, gI_sR, gL_sI, gL_sR, gR_sI, gR_sL, sc_h H0, sc_ao H0, t21, sc_h H1, sc_ao H1, t12]
  rw [s119]
  clear s104 s119
  have Fu : 1 ≤ sF (unsA (hlpS S h)) ∧ sF (unsA (hlpS S h)) ≤ 4 := F0
  have eR : pR (unsA (hlpS S h)) 0 = pR S 0 := by
    show 297 * (sF (hlpS S h) - 1) + 11 * 0 = 297 * (sF S - 1) + 11 * 0
    rw [sF_hlp]
  obtain ⟨τ2, hτ2⟩ : ∃ τ2, τ2 = sI τ1 40 8 (t + 1) := ⟨_, rfl⟩
  have q2 : sfq τ2 τ1 k j := by rw [hτ2]; exact sfq_i (by omega)
  have H2 := SC_q q2 H1
  have C2 : CSt τ2 k (unsA (hlpS S h)) := by rw [hτ2]; exact CSt_i sc c1
  have v8 : gI τ2 40 8 = t + 1 := by rw [hτ2, gI_sI, if_pos ⟨rfl, rfl⟩]
  have v4 : gI τ2 40 4 = n := by rw [hτ2, gI_sI, if_neg (by omega)]; exact u4
  have v3 : gI τ2 40 3 = 0 := by rw [hτ2, gI_sI, if_neg (by omega)]; exact u3
  have t52 : MM 252 [mR (some 40)] τ1 = some (some (mI (t + 1)), τ2) := by rw [T252, wt, hτ2]
  unfold ansJ
  by_cases h1 : h = 1
  · rw [if_pos h1]
    have hS1 : hlpS S h = S := by rw [h1]; rfl
    rw [hS1] at C2 Fu
    have o := (rV_ok P.1 (show 1 ≤ 10 by decide)).2.2.2.1 (a.1 h1)
    have m8 : vw (rgV S 1) % 8 = vw (rgV S 1) := by omega
    obtain ⟨τ3, t17, q3⟩ := T217 (kn := 6) (w := vw (rgV S 1)) (t := t + 1) (sc_k H2) p0
    have C3 : CSt τ3 k (wV (unsA S) 0 (mkV 6 (vw (rgV S 1)) (t + 1))) := CSt_w (r := 0) Fu C2 (by decide) q3
    refine okc_o (τ := τ3) ?_ ⟨sfq_t (sfq_v q3) (sfq_t q2 Q1), fun _ => ⟨(q3.1 _ _).trans v8, C3, (q3.1 _ _).trans v4, (q3.1 _ _).trans v3⟩⟩
    simp only [e289_119, e289_141, e289_144, e289_224, Option.getD_some, Option.bind_some, Option.toList_some, Option.toList_none, List.cons_append, List.nil_append, and_self, and_true, true_and, false_and, and_false, ite_self, not_true_eq_false, not_false_eq_true, reduceIte, Nat.reduceEqDiff, ab_I, ab_L, ab_R, ao_I, ao_L, ao_R, gL_sL, gI_sI, gR_sR, gI_sL, gI_sR, gL_sI, gL_sR, gR_sI, gR_sL, eq_true h1, t52, m8, sc_h H1, sc_ao H2, t17]
  · rw [if_neg h1]
    by_cases h131 : h = 131
    · rw [if_pos h131]
      have hS1 : hlpS S h = S := by rw [h131]; rfl
      rw [hS1] at C2 Fu
      have k2 := a.2.2 h131
      have x6 : gL σ (k + 1 + 0) (pR S 2 + 1) = iL (jV (vn (rgV S 2))).toInt := by
        rw [rd_1 (cAt_rg hS F.1 (show 2 ≤ 10 by decide)), if_neg (by omega), iL_ti]
      rw [x6]
      obtain ⟨τ3, t17, q3⟩ := T217 (kn := 10) (w := (jV (vn (rgV S 2))).toInt) (t := t + 1) (sc_k H2) p0
      have C3 : CSt τ3 k (wV (unsA S) 0 (mkV 10 ((jV (vn (rgV S 2))).toInt) (t + 1))) := CSt_w (r := 0) Fu C2 (by decide) q3
      have H3 := SC_q (sfq_v (j := j) q3) H2
      have y8 : gI τ3 40 8 = t + 1 := (q3.1 _ _).trans v8
      have y4 : gI τ3 40 4 = n := (q3.1 _ _).trans v4
      have y3 : gI τ3 40 3 = 0 := (q3.1 _ _).trans v3
      have s171 : RR (lkB tb289) (B289_119, [some (mR (some 40)), some (mI h), some (mI ((pR S 1 : Nat) : Int)), some (mI ((pR S 2 : Nat) : Int)), some (mI tg), some (mI (vw (rgV S 1) % 8)), some (mL (iL (jV (vn (rgV S 2))).toInt)), none, none], [mI ((pR S 0 : Nat) : Int)], τ1) = RR (lkB tb289) (B289_171, [some (mR (some 40)), some (mI h), some (mI ((pR S 1 : Nat) : Int)), some (mI ((pR S 2 : Nat) : Int)), some (mI tg), some (mI (vw (rgV S 1) % 8)), some (mL (iL (jV (vn (rgV S 2))).toInt)), none, some (mI ((pR S 0 : Nat) : Int))], [], τ3) := by
        rw [h131]
        simp only [e289_119, e289_168, Option.getD_some, Option.bind_some, Option.toList_some, Option.toList_none, List.cons_append, List.nil_append, and_self, and_true, true_and, false_and, and_false, ite_self, not_true_eq_false, not_false_eq_true, reduceIte, Nat.reduceEqDiff, ab_I, ab_L, ab_R, ao_I, ao_L, ao_R, gL_sL, gI_sI, gR_sR, gI_sL, gI_sR, gL_sI, gL_sR, gR_sI, gR_sL, Int.reduceEq, t52, sc_h H1, sc_ao H2, t17]
      rw [s171]
      by_cases full : (sH S).length = 64
      · rw [if_pos full]
        have t28 := T228n (t := t + 1) (sc_k H3) C3 full
        refine okc_o (τ := τ3) ?_ (spj_f (by decide) (sfq_t (sfq_v q3) (sfq_t q2 Q1)))
        simp only [e289_171, e289_182, Option.getD_some, Option.bind_some, Option.toList_some, Option.toList_none, List.cons_append, List.nil_append, and_self, and_true, true_and, false_and, and_false, ite_self, not_true_eq_false, not_false_eq_true, reduceIte, Nat.reduceEqDiff, ab_I, ab_L, ab_R, ao_I, ao_L, ao_R, gL_sL, gI_sI, gR_sR, gI_sL, gI_sR, gL_sI, gL_sR, gR_sI, gR_sL, sc_h H3, sc_ao H3, y8, t28]
      · rw [if_neg full]
        have hl := P.1.2.2.2.2.2.1
        obtain ⟨τ4, t28, c4, q4⟩ := T228 (t := t + 1) (sc_k H3) C3 (show (sH S).length < 64 by omega)
        have z : ∀ s, gI τ4 40 s = gI τ3 40 s := fun s => (csq_h q4).1 _ _ (by omega) (by omega) (by omega)
        refine okc_o (τ := τ4) ?_ ⟨sfq_t (sfq_s (csq_h q4)) (sfq_t (sfq_v q3) (sfq_t q2 Q1)), fun _ => ⟨(z 8).trans y8, c4, (z 4).trans y4, (z 3).trans y3⟩⟩
        simp only [e289_171, e289_182, Option.getD_some, Option.bind_some, Option.toList_some, Option.toList_none, List.cons_append, List.nil_append, and_self, and_true, true_and, false_and, and_false, ite_self, not_true_eq_false, not_false_eq_true, reduceIte, Nat.reduceEqDiff, ab_I, ab_L, ab_R, ao_I, ao_L, ao_R, gL_sL, gI_sI, gR_sR, gI_sL, gI_sR, gL_sI, gL_sR, gR_sI, gR_sL, sc_h H3, sc_ao H3, y8, t28, oneI]
    · rw [if_neg h131]
      have fin : ∀ m : Nat, m ≤ 8 → (∀ o : Option Rs, RR (lkB tb289) (B289_208, [some (mR (some 40)), some (mI h), some (mI ((pR S 1 : Nat) : Int)), some (mI ((pR S 2 : Nat) : Int)), some (mI tg), some (mI (vw (rgV S 1) % 8)), some (mL (gL σ (k + 1 + 0) (pR S 2 + 1))), none, some (mI ((pR S 0 : Nat) : Int))], [mI (m : Int), mR (some 42)], τ1) = o → okc o (some (mI 0)) (fun τ => spj σ τ k j (0, some (n, wV (unsA (hlpS S h)) 0 (numV (wideN m))), none, t))) := by
        intro m hm o ho
        have t63 := T63 (σ := τ1) (k := 42) (n := m) (kc_42 _) hm
        obtain ⟨τ3, h3'⟩ : ∃ τ3, τ3 = wC τ1 42 (wideN m) := ⟨_, rfl⟩
        have q3 : nfq τ3 τ1 := by rw [h3']; exact nfq_w (by omega)
        have r42 : rC τ3 42 = wideN m := by rw [h3', rC_wC, if_pos rfl]
        rw [← h3'] at t63
        have H3 := SC_n q3 H1
        have C3 := CSt_n sc q3 c1
        obtain ⟨τ4, t18, q4⟩ := T218 (j := 42) (sc_k H3) (kc_42 _) (by omega) p0
        rw [r42] at q4
        have C4 : CSt τ4 k (wV (unsA (hlpS S h)) 0 (numV (wideN m))) := CSt_w (r := 0) Fu C3 (by decide) (by show cxV τ4 τ3 k (pR (unsA (hlpS S h)) 0) _; rw [eR]; exact q4)
        refine okc_o (τ := τ4) ?_ ⟨sfq_t (sfq_v q4) (sfq_t (sfq_n q3) Q1), fun _ => ⟨?_, C4, ?_, ?_⟩⟩
        · rw [← ho]
          have a42 : ao τ1 2 (some 42) = True := aoN (kc_42 _)
          simp only [e289_208, e289_211, e289_224, Option.getD_some, Option.bind_some, Option.toList_some, Option.toList_none, List.cons_append, List.nil_append, and_self, and_true, true_and, false_and, and_false, ite_self, not_true_eq_false, not_false_eq_true, reduceIte, Nat.reduceEqDiff, ab_I, ab_L, ab_R, ao_I, ao_L, ao_R, gL_sL, gI_sI, gR_sR, gI_sL, gI_sR, gL_sI, gL_sR, gR_sI, gR_sL, a42, t63, sc_h H3, sc_ao H3, t18]
        · exact ((q4.1 _ _).trans (q3.1 _ _)).trans u8
        · exact ((q4.1 _ _).trans (q3.1 _ _)).trans u4
        · exact ((q4.1 _ _).trans (q3.1 _ _)).trans u3
      by_cases h7 : h = 7
      · rw [if_pos h7]
        refine fin 4 (by decide) _ ?_
        simp only [e289_119, Option.getD_some, Option.bind_some, Option.toList_some, Option.toList_none, List.cons_append, List.nil_append, and_self, and_true, true_and, false_and, and_false, ite_self, not_true_eq_false, not_false_eq_true, reduceIte, Nat.reduceEqDiff, ab_I, ab_L, ab_R, ao_I, ao_L, ao_R, gL_sL, gI_sI, gR_sR, gI_sL, gI_sR, gL_sI, gL_sR, gR_sI, gR_sL, eq_false h1, eq_false h131, eq_true h7]
        rfl
      · rw [if_neg h7, ← wide8]
        refine fin 8 (by decide) _ ?_
        simp only [e289_119, Option.getD_some, Option.bind_some, Option.toList_some, Option.toList_none, List.cons_append, List.nil_append, and_self, and_true, true_and, false_and, and_false, ite_self, not_true_eq_false, not_false_eq_true, reduceIte, Nat.reduceEqDiff, ab_I, ab_L, ab_R, ao_I, ao_L, ao_R, gL_sL, gI_sI, gR_sR, gI_sL, gI_sR, gL_sI, gL_sR, gR_sI, gR_sL, eq_false h1, eq_false h131, eq_false h7]
        rfl
end CHL2
-- FILE 98.chl3
/-! ===== the class's helpers, whole ===== -/
section CHL3
variable {τ σ ρ : MS} {k j : Nat} {E : EV} {w : B64} {S : ST} {t n h : Int} {jx i : Nat}
abbrev lo5 (h : Int) (jx : Nat) (i : Int) : List (Option MV) := [some (mR (some 40)), some (mI h), some (mR (some (strK + jx))), some (mI i), none]
theorem L283s {r c : Nat} {f : Int} (H : SC σ k j E w) (hS : CSt σ k S) (P : PX S E t) (hj : jx < stN) (hi : i + 1 < (strAt jx).length) (hi2 : i < 100) (e0 : (strAt jx).getD i 0 = 48 + r) (hr : r ≤ 10) (e1 : (strAt jx).getD (i + 1) 0 = c) (hc : c < 256) (t84 : MM 284 [mR (some 40), mI ((pR S r : Nat) : Int), mI (c : Int)] σ = some (some (mI f), σ)) :
    RR (lkB tb283) (B283_28, lo5 h jx (i : Int), [], σ) = if f = 0 then RR (lkB tb283) (B283_28, [some (mR (some 40)), some (mI h), some (mR (some (strK + jx))), some (mI ((i + 2 : Nat) : Int)), some (mI f)], [], σ) else some (some (mI f), σ) := by
  have a := eq_true (ao_tx (σ := σ) hj)
  have l1 : i + 1 < 100000 := by omega
  have l2 : i + 2 < 100000 := by omega
  have nl : ¬ (((strAt jx).length : Nat) : Int) ≤ ((i + 1 : Nat) : Int) := by omega
  have t73 := T573t (σ := σ) hj
  have ta := T574t (σ := σ) (i := i) hj (by omega) (by omega)
  have tb := T574t (σ := σ) (i := i + 1) hj hi (by omega)
  rw [e0] at ta
  rw [e1] at tb
  have e48 : ((48 + r : Nat) : Int) - 48 = (r : Int) := by omega
  have w48 : w32 (((48 + r : Nat) : Int) - 48) = (r : Int) := by rw [e48]; exact w32_i (by omega) (by omega)
  have t12 := T212r H hS P hr
  simp only [e283_28, e283_35, e283_48, e283_54, e283_61, e283_64, Option.getD_some, Option.bind_some, Option.toList_some, Option.toList_none, List.cons_append, List.nil_append, and_self, and_true, true_and, false_and, and_false, ite_self, not_true_eq_false, not_false_eq_true, reduceIte, Nat.reduceEqDiff, ab_I, ab_L, ab_R, ao_I, ao_L, ao_R, gL_sL, gI_sI, gR_sR, gI_sL, gI_sR, gL_sI, gL_sR, gR_sI, gR_sL, a, t73, wp1 l1, nl, ta, tb, sc_h H, sc_ao H, w48, t12, t84, wp2 l2]
/-- the answer's fault, and what is so behind it -/
def finJ (σ : MS) (k j : Nat) (S : ST) (h n t : Int) (o : Option Rs) (F : Int) : Prop := okc o (some (mI (if F = 0 then (ansJ S h n t).1 else F))) (fun τ => if F = 0 then spj σ τ k j (ansJ S h n t) else sfq τ σ k j)
theorem fin_s {r c : Nat} {f F : Int} (H : SC σ k j E w) (hS : CSt σ k S) (P : PX S E t) (hj : jx < stN) (hi : i + 1 < (strAt jx).length) (hi2 : i < 100) (e0 : (strAt jx).getD i 0 = 48 + r) (hr : r ≤ 10) (e1 : (strAt jx).getD (i + 1) 0 = c) (hc : c < 256) (t84 : MM 284 [mR (some 40), mI ((pR S r : Nat) : Int), mI (c : Int)] σ = some (some (mI f), σ))
    (nx : f = 0 → finJ σ k j S h n t (RR (lkB tb283) (B283_28, lo5 h jx ((i + 2 : Nat) : Int), [], σ)) F) : finJ σ k j S h n t (RR (lkB tb283) (B283_28, lo5 h jx (i : Int), [], σ)) (fst f F) := by
  have s := L283s (h := h) H hS P hj hi hi2 e0 hr e1 hc t84
  unfold fst
  by_cases f0 : f = 0
  · rw [if_pos f0] at s ⊢
    obtain ⟨τ, a, b⟩ := nx f0
    refine ⟨τ, ?_, b⟩
    rw [s]
    exact RR_q a (by repeat (first | exact lq_nil | refine lq_cons (Or.inr rfl) ?_ | refine lq_cons (Or.inl rfl) ?_))
  · rw [if_neg f0] at s ⊢
    rw [s]
    refine ⟨σ, ?_, ?_⟩
    · rw [if_neg f0]
    · exact Eq.mpr (if_neg f0) (sfq_r _ _ _)
abbrev endF (S : ST) (h : Int) : Int := if h = 12 then (if 1 < sF S then 8 else if sH S = [] then 0 else 10) else 0
theorem fin_e (H : SC σ k j E w) (hS : CSt σ k S) (P : PX S E t) (ht : gI σ 40 8 = t) (h4 : gI σ 40 4 = n) (h3 : gI σ 40 3 = 0) (hj : jx < stN) (hi : (strAt jx).length ≤ i + 1) (hi2 : i < 100) (a : argJ E S h) : finJ σ k j S h n t (RR (lkB tb283) (B283_28, lo5 h jx (i : Int), [], σ)) (endF S h) := by
  have ax := eq_true (ao_tx (σ := σ) hj)
  have l1 : i + 1 < 100000 := by omega
  have le : (((strAt jx).length : Nat) : Int) ≤ ((i + 1 : Nat) : Int) := by omega
  have t73 := T573t (σ := σ) hj
  have f3 : gI σ k 3 = (sF S : Int) := hS.1.1
  have f4 : gI σ k 4 = ((sH S).length : Int) := hS.1.2
  unfold finJ endF
  by_cases h12 : h = 12
  · rw [if_pos h12]
    by_cases f1 : 1 < sF S
    · have n1 : ¬ (sF S : Int) ≤ 1 := by omega
      rw [if_pos f1]
      refine ⟨σ, ?_, ?_⟩
      · rw [if_neg (by decide), h12]
        simp only [e283_28, e283_35, Option.getD_some, Option.bind_some, Option.toList_some, Option.toList_none, List.cons_append, List.nil_append, and_self, and_true, true_and, false_and, and_false, ite_self, not_true_eq_false, not_false_eq_true, reduceIte, Nat.reduceEqDiff, ab_I, ab_L, ab_R, ao_I, ao_L, ao_R, gL_sL, gI_sI, gR_sR, gI_sL, gI_sR, gL_sI, gL_sR, gR_sI, gR_sL, ax, t73, wp1 l1, le, sc_h H, sc_ao H, f3, n1]
      · exact Eq.mpr (if_neg (show ¬ (8 : Int) = 0 by decide)) (sfq_r _ _ _)
    · have n1 : (sF S : Int) ≤ 1 := by omega
      rw [if_neg f1]
      by_cases hh : sH S = []
      · rw [if_pos hh]
        have n4 : ((sH S).length : Int) ≤ 0 := by rw [hh]; decide
        obtain ⟨τ, t89, b⟩ := T289 H hS P ht h4 h3 a
        refine ⟨τ, ?_, ?_⟩
        · rw [if_pos rfl]
          rw [h12] at t89 ⊢
          simp only [e283_28, e283_35, e283_100, e283_119, e283_124, Option.getD_some, Option.bind_some, Option.toList_some, Option.toList_none, List.cons_append, List.nil_append, and_self, and_true, true_and, false_and, and_false, ite_self, not_true_eq_false, not_false_eq_true, reduceIte, Nat.reduceEqDiff, ab_I, ab_L, ab_R, ao_I, ao_L, ao_R, gL_sL, gI_sI, gR_sR, gI_sL, gI_sR, gL_sI, gL_sR, gR_sI, gR_sL, ax, t73, wp1 l1, le, sc_h H, sc_ao H, f3, n1, f4, n4, t89]
        · exact Eq.mpr (if_pos rfl) b
      · rw [if_neg hh]
        have n4 : ¬ ((sH S).length : Int) ≤ 0 := by
          have : 0 < (sH S).length := List.length_pos_iff.mpr hh
          omega
        refine ⟨σ, ?_, ?_⟩
        · rw [if_neg (by decide), h12]
          simp only [e283_28, e283_35, e283_100, Option.getD_some, Option.bind_some, Option.toList_some, Option.toList_none, List.cons_append, List.nil_append, and_self, and_true, true_and, false_and, and_false, ite_self, not_true_eq_false, not_false_eq_true, reduceIte, Nat.reduceEqDiff, ab_I, ab_L, ab_R, ao_I, ao_L, ao_R, gL_sL, gI_sI, gR_sR, gI_sL, gI_sR, gL_sI, gL_sR, gR_sI, gR_sL, ax, t73, wp1 l1, le, sc_h H, sc_ao H, f3, n1, f4, n4]
        · exact Eq.mpr (if_neg (show ¬ (10 : Int) = 0 by decide)) (sfq_r _ _ _)
  · rw [if_neg h12]
    obtain ⟨τ, t89, b⟩ := T289 H hS P ht h4 h3 a
    refine ⟨τ, ?_, ?_⟩
    · rw [if_pos rfl]
      simp only [e283_28, e283_35, e283_100, e283_119, e283_124, Option.getD_some, Option.bind_some, Option.toList_some, Option.toList_none, List.cons_append, List.nil_append, and_self, and_true, true_and, false_and, and_false, ite_self, not_true_eq_false, not_false_eq_true, reduceIte, Nat.reduceEqDiff, ab_I, ab_L, ab_R, ao_I, ao_L, ao_R, gL_sL, gI_sI, gR_sR, gI_sL, gI_sR, gL_sI, gL_sR, gR_sI, gR_sL, ax, t73, wp1 l1, le, eq_false h12, t89]
    · exact Eq.mpr (if_pos rfl) b
theorem fst_as (a b c : Int) : fst (fst a b) c = fst a (fst b c) := by
  unfold fst
  by_cases h : a = 0
  · rw [if_pos h, if_pos h]
  · rw [if_neg h, if_neg h, if_neg h]
theorem fst_z (a : Int) : fst a 0 = a := by
  unfold fst
  by_cases h : a = 0
  · rw [if_pos h, h]
  · rw [if_neg h]
theorem wntA_z {x : VL} {p : Bool} (h : wntA x p = 0) : p = true := by
  unfold wntA at h
  split at h
  · exact absurd h (by decide)
  · split at h
    · exact absurd h (by decide)
    · split at h
      · assumption
      · exact absurd h (by decide)
theorem ans_hlp (hf : hlpF E S h = 0) (hh : h = 131 → ¬ (sH S).length = 64) : hlpJ E S h n t = ansJ S h n t := by
  unfold hlpJ ansJ
  rw [if_neg (not_not_intro hf)]
  by_cases h1 : h = 1
  · rw [if_pos h1, if_pos h1]
  · rw [if_neg h1, if_neg h1]
    by_cases h131 : h = 131
    · rw [if_pos h131, if_pos h131, if_neg (hh h131)]
    · rw [if_neg h131, if_neg h131]
/-- from the loop to the whole -/
theorem T283w (hf : (hlpF E S h = 0 → h = 131 → ¬ (sH S).length = 64)) {o : Option Rs} (hF : finJ σ k j S h n t o (hlpF E S h)) : okc o (some (mI (hlpJ E S h n t).1)) (fun τ => spj σ τ k j (hlpJ E S h n t)) := by
  obtain ⟨τ, a, b⟩ := hF
  by_cases z : hlpF E S h = 0
  · rw [if_pos z] at a b
    rw [ans_hlp z (hf z)]
    exact ⟨τ, a, b⟩
  · rw [if_neg z] at a b
    have e : hlpJ E S h n t = (hlpF E S h, none, none, t) := if_pos z
    rw [e]
    exact ⟨τ, a, spj_f z b⟩
theorem L283a {jx : Nat} (hj : jx < stN) (e : (if h = 1 ∨ h = 3 then 79 else if h = 2 then 80 else if h = 6 then 81 else if h = 12 then 82 else if h = 26 then 83 else if h = 44 then 84 else if h = 131 then 85 else if h = 132 ∨ h = 133 then 86 else 87) = jx) (hl : ¬ (strAt jx).length = 0 ∨ h = 5 ∨ h = 7) : MM 283 [mR (some 40), mI h] σ = RR (lkB tb283) (B283_28, lo5 h jx 0, [], σ) := by
  have t82 := T282 (σ := σ) (h := h)
  rw [e] at t82
  have a := eq_true (ao_tx (σ := σ) hj)
  have t73 := T573t (σ := σ) hj
  by_cases l0 : (strAt jx).length = 0
  · have z : (((strAt jx).length : Nat) : Int) = 0 := by omega
    rcases hl with q | q | q
    · exact absurd l0 q
    · have h7 : ¬ h = 7 := by omega
      simp only [M283, e283_0, e283_4, e283_9, e283_26, Option.getD_some, Option.bind_some, Option.toList_some, Option.toList_none, List.cons_append, List.nil_append, and_self, and_true, true_and, false_and, and_false, ite_self, not_true_eq_false, not_false_eq_true, reduceIte, Nat.reduceEqDiff, ab_I, ab_L, ab_R, ao_I, ao_L, ao_R, gL_sL, gI_sI, gR_sR, gI_sL, gI_sR, gL_sI, gL_sR, gR_sI, gR_sL, t82, a, t73, z, eq_true q]
    · have h5 : ¬ h = 5 := by omega
      simp only [M283, e283_0, e283_4, e283_9, e283_26, Option.getD_some, Option.bind_some, Option.toList_some, Option.toList_none, List.cons_append, List.nil_append, and_self, and_true, true_and, false_and, and_false, ite_self, not_true_eq_false, not_false_eq_true, reduceIte, Nat.reduceEqDiff, ab_I, ab_L, ab_R, ao_I, ao_L, ao_R, gL_sL, gI_sI, gR_sR, gI_sL, gI_sR, gL_sI, gL_sR, gR_sI, gR_sL, t82, a, t73, z, eq_false h5, eq_true q]
  · have z : ¬ (((strAt jx).length : Nat) : Int) = 0 := by omega
    simp only [M283, e283_0, e283_4, e283_9, e283_26, Option.getD_some, Option.bind_some, Option.toList_some, Option.toList_none, List.cons_append, List.nil_append, and_self, and_true, true_and, false_and, and_false, ite_self, not_true_eq_false, not_false_eq_true, reduceIte, Nat.reduceEqDiff, ab_I, ab_L, ab_R, ao_I, ao_L, ao_R, gL_sL, gI_sI, gR_sR, gI_sL, gI_sR, gL_sI, gL_sR, gR_sI, gR_sL, t82, a, t73, eq_false z]
theorem toI_s {x : B64} {m : Nat} (hm : m < 1000) (h : ¬ BitVec.ofNat 64 m < x) : x.toNat ≤ m ∧ x.toInt = (x.toNat : Int) := by
  rw [BitVec.lt_def, BitVec.toNat_ofNat, Nat.mod_eq_of_lt (by omega)] at h
  refine ⟨by omega, ?_⟩
  rw [BitVec.toInt_eq_toNat_cond, if_pos (by omega)]
/-- a map whose keys and values are told -/
theorem map_k (P : PX S E t) (hE : okE E) (h : wntM E (rgV S 1) 0 1 = 0) : vk (rgV S 1) = 4 ∧ (0 ≤ vw (rgV S 1) ∧ vw (rgV S 1) ≤ 7) ∧ (0 ≤ E.2.1 (vw (rgV S 1)).toNat ∧ E.2.1 (vw (rgV S 1)).toNat ≤ 128) ∧ (0 ≤ E.2.2 (vw (rgV S 1)).toNat ∧ E.2.2 (vw (rgV S 1)).toNat ≤ 128) := by
  have q := of_decide_eq_true (wntA_z h)
  have o := (rV_ok P.1 (show 1 ≤ 10 by decide)).2.2.2.1 q.1
  have e := hE (vw (rgV S 1)).toNat (by omega) o.2.2
  have e2 := e.2 q.2.2
  exact ⟨q.1, ⟨o.1, o.2.1⟩, by omega, by omega⟩
theorem T283 (H : SC σ k j E w) (hS : CSt σ k S) (P : PX S E t) (hE : okE E) (ht : gI σ 40 8 = t) (h4 : gI σ 40 4 = n) (h3 : gI σ 40 3 = 0) : okc (MM 283 [mR (some 40), mI h] σ) (some (mI (hlpJ E S h n t).1)) (fun τ => spj σ τ k j (hlpJ E S h n t)) := by
  have N : ∀ {r : Nat} {c : Int} {b : Bool}, r ≤ 10 → (c = 109 ∨ c = 112 ∨ c = 114 ∨ c = 99 ∨ c = 116 ∨ c = 119 ∨ c = 105 ∨ c = 104 ∨ c = 110) → ((b = true) ↔ wntP E (rgV S r) c) → MM 284 [mR (some 40), mI ((pR S r : Nat) : Int), mI c] σ = some (some (mI (wntA (rgV S r) b)), σ) := fun hr hc hb => T284n H hS P hr hc hb
  have dB : ∀ {p q : Prop} {d : Decidable p}, (p ↔ q) → ((@decide p d = true) ↔ q) := fun e => (decide_eq_true_iff).trans e
  by_cases c1 : h = 1 ∨ h = 3
  · rw [L283a (jx := 79) (by decide) (if_pos c1) (Or.inl (by rw [st_79]; decide))]
    refine T283w (fun _ z => by omega) ?_
    have e : hlpF E S h = fst (wntM E (rgV S 1) 0 1) (fst (wntB E S (rgV S 2) (E.2.1 (vw (rgV S 1)).toNat)) (endF S h)) := by
      have z : endF S h = 0 := if_neg (by omega)
      rw [z, fst_z]
      exact if_pos c1
    rw [e]
    refine fin_s (i := 0) (r := 1) (c := 109) H hS P (by decide) (by rw [st_79]; decide) (by decide) (by rw [st_79]; rfl) (by decide) (by rw [st_79]; rfl) (by decide) (N (by decide) (by omega) (dB Iff.rfl)) (fun z1 => ?_)
    have m := map_k P hE z1
    refine fin_s (i := 2) (r := 2) (c := 107) H hS P (by decide) (by rw [st_79]; decide) (by decide) (by rw [st_79]; rfl) (by decide) (by rw [st_79]; rfl) (by decide) (T284b H hS P (by decide) m.2.2.1 (Or.inl ⟨rfl, m.2.1, rfl⟩)) (fun z2 => ?_)
    exact fin_e (i := 4) H hS P ht h4 h3 (by decide) (by rw [st_79]; decide) (by decide) ⟨fun _ => m.1, fun z => by omega, fun z => by omega⟩
  · by_cases c2 : h = 2
    · rw [L283a (jx := 80) (by decide) (by rw [if_neg c1, if_pos c2]) (Or.inl (by rw [st_80]; decide))]
      refine T283w (fun _ z => by omega) ?_
      have e : hlpF E S h = fst (wntM E (rgV S 1) 0 1) (fst (wntB E S (rgV S 2) (E.2.1 (vw (rgV S 1)).toNat)) (fst (wntB E S (rgV S 3) (E.2.2 (vw (rgV S 1)).toNat)) (fst (wntK (rgV S 4) 1) (endF S h)))) := by
        have z : endF S h = 0 := if_neg (by omega)
        rw [z, fst_z, ← fst_as, ← fst_as]
        unfold hlpF
        rw [if_neg c1, if_pos c2]
      rw [e]
      refine fin_s (i := 0) (r := 1) (c := 109) H hS P (by decide) (by rw [st_80]; decide) (by decide) (by rw [st_80]; rfl) (by decide) (by rw [st_80]; rfl) (by decide) (N (by decide) (by omega) (dB Iff.rfl)) (fun z1 => ?_)
      have m := map_k P hE z1
      refine fin_s (i := 2) (r := 2) (c := 107) H hS P (by decide) (by rw [st_80]; decide) (by decide) (by rw [st_80]; rfl) (by decide) (by rw [st_80]; rfl) (by decide) (T284b H hS P (by decide) m.2.2.1 (Or.inl ⟨rfl, m.2.1, rfl⟩)) (fun z2 => ?_)
      refine fin_s (i := 4) (r := 3) (c := 118) H hS P (by decide) (by rw [st_80]; decide) (by decide) (by rw [st_80]; rfl) (by decide) (by rw [st_80]; rfl) (by decide) (T284b H hS P (by decide) m.2.2.2 (Or.inr (Or.inl ⟨rfl, m.2.1, rfl⟩))) (fun z3 => ?_)
      refine fin_s (i := 6) (r := 4) (c := 110) H hS P (by decide) (by rw [st_80]; decide) (by decide) (by rw [st_80]; rfl) (by decide) (by rw [st_80]; rfl) (by decide) (N (by decide) (by omega) (dB Iff.rfl)) (fun z4 => ?_)
      exact fin_e (i := 8) H hS P ht h4 h3 (by decide) (by rw [st_80]; decide) (by decide) ⟨fun z => by omega, fun z => by omega, fun z => by omega⟩
    · by_cases c6 : h = 6
      · rw [L283a (jx := 81) (by decide) (by rw [if_neg c1, if_neg c2, if_pos c6]) (Or.inl (by rw [st_81]; decide))]
        refine T283w (fun _ z => by omega) ?_
        have e : hlpF E S h = fst (wntA (rgV S 2) (decide (vk (rgV S 2) = 1 ∧ ¬ jA (vn (rgV S 2)) = 0#64 ∧ ¬ 64#64 < jB (vn (rgV S 2))))) (fst (wntB E S (rgV S 1) (jB (vn (rgV S 2))).toInt) (endF S h)) := by
          have z : endF S h = 0 := if_neg (by omega)
          rw [z, fst_z]
          unfold hlpF
          rw [if_neg c1, if_neg c2, if_neg (by omega), if_pos c6]
        rw [e]
        refine fin_s (i := 0) (r := 2) (c := 116) H hS P (by decide) (by rw [st_81]; decide) (by decide) (by rw [st_81]; rfl) (by decide) (by rw [st_81]; rfl) (by decide) (N (by decide) (by omega) (dB Iff.rfl)) (fun z1 => ?_)
        have m := of_decide_eq_true (wntA_z z1)
        have b := toI_s (m := 64) (by decide) m.2.2
        refine fin_s (i := 2) (r := 1) (c := 98) H hS P (by decide) (by rw [st_81]; decide) (by decide) (by rw [st_81]; rfl) (by decide) (by rw [st_81]; rfl) (by decide) (T284b H hS P (by decide) (by omega) (Or.inr (Or.inr ⟨rfl, iL_ti _⟩))) (fun z2 => ?_)
        exact fin_e (i := 4) H hS P ht h4 h3 (by decide) (by rw [st_81]; decide) (by decide) ⟨fun z => by omega, fun z => by omega, fun z => by omega⟩
      · by_cases c12 : h = 12
        · rw [L283a (jx := 82) (by decide) (by rw [if_neg c1, if_neg c2, if_neg c6, if_pos c12]) (Or.inl (by rw [st_82]; decide))]
          refine T283w (fun _ z => by omega) ?_
          have e : hlpF E S h = fst (wntK (rgV S 1) 2) (fst (wntM E (rgV S 2) 2 2) (fst (wntK (rgV S 3) 1) (endF S h))) := by
            have z : endF S h = (if 1 < sF S then 8 else if sH S = [] then 0 else 10) := if_pos c12
            rw [z, ← fst_as, ← fst_as]
            unfold hlpF
            rw [if_neg c1, if_neg c2, if_neg (by omega), if_neg c6, if_pos c12]
          rw [e]
          refine fin_s (i := 0) (r := 1) (c := 99) H hS P (by decide) (by rw [st_82]; decide) (by decide) (by rw [st_82]; rfl) (by decide) (by rw [st_82]; rfl) (by decide) (N (by decide) (by omega) (dB Iff.rfl)) (fun z1 => ?_)
          refine fin_s (i := 2) (r := 2) (c := 112) H hS P (by decide) (by rw [st_82]; decide) (by decide) (by rw [st_82]; rfl) (by decide) (by rw [st_82]; rfl) (by decide) (N (by decide) (by omega) (dB Iff.rfl)) (fun z2 => ?_)
          refine fin_s (i := 4) (r := 3) (c := 110) H hS P (by decide) (by rw [st_82]; decide) (by decide) (by rw [st_82]; rfl) (by decide) (by rw [st_82]; rfl) (by decide) (N (by decide) (by omega) (dB Iff.rfl)) (fun z3 => ?_)
          exact fin_e (i := 6) H hS P ht h4 h3 (by decide) (by rw [st_82]; decide) (by decide) ⟨fun z => by omega, fun z => by omega, fun z => by omega⟩
        · by_cases c26 : h = 26
          · rw [L283a (jx := 83) (by decide) (by rw [if_neg c1, if_neg c2, if_neg c6, if_neg c12, if_pos c26]) (Or.inl (by rw [st_83]; decide))]
            refine T283w (fun _ z => by omega) ?_
            have e : hlpF E S h = fst (wntK (rgV S 1) 2) (fst (wntK (rgV S 2) 1) (fst (wntA (rgV S 4) (decide (vk (rgV S 4) = 1 ∧ ¬ jA (vn (rgV S 4)) = 0#64 ∧ ¬ 128#64 < jB (vn (rgV S 4))))) (fst (fst (wntK (rgV S 3) 3) (if room E (rgV S 3) 0 (jB (vn (rgV S 4))).toInt then 0 else 5)) (endF S h)))) := by
              have z : endF S h = 0 := if_neg (by omega)
              rw [z, fst_z, ← fst_as, ← fst_as, ← fst_as]
              unfold hlpF
              rw [if_neg c1, if_neg c2, if_neg (by omega), if_neg c6, if_neg c12, if_pos c26]
            rw [e]
            refine fin_s (i := 0) (r := 1) (c := 99) H hS P (by decide) (by rw [st_83]; decide) (by decide) (by rw [st_83]; rfl) (by decide) (by rw [st_83]; rfl) (by decide) (N (by decide) (by omega) (dB Iff.rfl)) (fun z1 => ?_)
            refine fin_s (i := 2) (r := 2) (c := 110) H hS P (by decide) (by rw [st_83]; decide) (by decide) (by rw [st_83]; rfl) (by decide) (by rw [st_83]; rfl) (by decide) (N (by decide) (by omega) (dB Iff.rfl)) (fun z2 => ?_)
            refine fin_s (i := 4) (r := 4) (c := 119) H hS P (by decide) (by rw [st_83]; decide) (by decide) (by rw [st_83]; rfl) (by decide) (by rw [st_83]; rfl) (by decide) (N (by decide) (by omega) (dB Iff.rfl)) (fun z3 => ?_)
            have m := of_decide_eq_true (wntA_z z3)
            have b := toI_s (m := 128) (by decide) m.2.2
            refine fin_s (i := 6) (r := 3) (c := 115) H hS P (by decide) (by rw [st_83]; decide) (by decide) (by rw [st_83]; rfl) (by decide) (by rw [st_83]; rfl) (by decide) (T284s H hS P (by decide) (by omega) (iL_ti _)) (fun z4 => ?_)
            have z5 : wntK (rgV S 3) 3 = 0 := by
              apply Classical.byContradiction
              intro q
              unfold fst at z4
              rw [if_neg q] at z4
              exact q z4
            have k3 := of_decide_eq_true (wntA_z z5)
            have rm : room E (rgV S 3) 0 (jB (vn (rgV S 4))).toInt := by
              apply Classical.byContradiction
              intro q
              unfold fst at z4
              rw [if_pos z5, if_neg q] at z4
              exact absurd z4 (by decide)
            exact fin_e (i := 8) H hS P ht h4 h3 (by decide) (by rw [st_83]; decide) (by decide) ⟨fun z => by omega, fun _ => ⟨k3, rm, m.2.2⟩, fun z => by omega⟩
          · by_cases c44 : h = 44
            · rw [L283a (jx := 84) (by decide) (by rw [if_neg c1, if_neg c2, if_neg c6, if_neg c12, if_neg c26, if_pos c44]) (Or.inl (by rw [st_84]; decide))]
              refine T283w (fun _ z => by omega) ?_
              have e : hlpF E S h = fst (wntK (rgV S 1) 2) (fst (wntK (rgV S 2) 1) (endF S h)) := by
                have z : endF S h = 0 := if_neg (by omega)
                rw [z, fst_z]
                unfold hlpF
                rw [if_neg c1, if_neg c2, if_neg (by omega), if_neg c6, if_neg c12, if_neg c26, if_pos c44]
              rw [e]
              refine fin_s (i := 0) (r := 1) (c := 99) H hS P (by decide) (by rw [st_84]; decide) (by decide) (by rw [st_84]; rfl) (by decide) (by rw [st_84]; rfl) (by decide) (N (by decide) (by omega) (dB Iff.rfl)) (fun z1 => ?_)
              refine fin_s (i := 2) (r := 2) (c := 110) H hS P (by decide) (by rw [st_84]; decide) (by decide) (by rw [st_84]; rfl) (by decide) (by rw [st_84]; rfl) (by decide) (N (by decide) (by omega) (dB Iff.rfl)) (fun z2 => ?_)
              exact fin_e (i := 4) H hS P ht h4 h3 (by decide) (by rw [st_84]; decide) (by decide) ⟨fun z => by omega, fun z => by omega, fun z => by omega⟩
            · by_cases c131 : h = 131
              · rw [L283a (jx := 85) (by decide) (by rw [if_neg c1, if_neg c2, if_neg c6, if_neg c12, if_neg c26, if_neg c44, if_pos c131]) (Or.inl (by rw [st_85]; decide))]
                have e : hlpF E S h = fst (fst (wntM E (rgV S 1) 3 3) (fst (wntA (rgV S 2) (decide (vk (rgV S 2) = 1 ∧ isC (vn (rgV S 2)) ∧ 1 ≤ (jV (vn (rgV S 2))).toInt ∧ (jV (vn (rgV S 2))).toInt ≤ 64))) (fst (wntK (rgV S 3) 1) (endF S h)))) (if (sH S).length = 64 then 12 else 0) := by
                  have z : endF S h = 0 := if_neg (by omega)
                  rw [z, fst_z, ← fst_as]
                  unfold hlpF
                  rw [if_neg c1, if_neg c2, if_neg (by omega), if_neg c6, if_neg c12, if_neg c26, if_neg c44, if_pos c131]
                have key : finJ σ k j S h n t (RR (lkB tb283) (B283_28, lo5 h 85 0, [], σ)) (fst (wntM E (rgV S 1) 3 3) (fst (wntA (rgV S 2) (decide (vk (rgV S 2) = 1 ∧ isC (vn (rgV S 2)) ∧ 1 ≤ (jV (vn (rgV S 2))).toInt ∧ (jV (vn (rgV S 2))).toInt ≤ 64))) (fst (wntK (rgV S 3) 1) (endF S h)))) := by
                  refine fin_s (i := 0) (r := 1) (c := 114) H hS P (by decide) (by rw [st_85]; decide) (by decide) (by rw [st_85]; rfl) (by decide) (by rw [st_85]; rfl) (by decide) (N (by decide) (by omega) (dB Iff.rfl)) (fun z1 => ?_)
                  refine fin_s (i := 2) (r := 2) (c := 105) H hS P (by decide) (by rw [st_85]; decide) (by decide) (by rw [st_85]; rfl) (by decide) (by rw [st_85]; rfl) (by decide) (N (by decide) (by omega) (dB Iff.rfl)) (fun z2 => ?_)
                  have m := of_decide_eq_true (wntA_z z2)
                  refine fin_s (i := 4) (r := 3) (c := 110) H hS P (by decide) (by rw [st_85]; decide) (by decide) (by rw [st_85]; rfl) (by decide) (by rw [st_85]; rfl) (by decide) (N (by decide) (by omega) (dB Iff.rfl)) (fun z3 => ?_)
                  exact fin_e (i := 6) H hS P ht h4 h3 (by decide) (by rw [st_85]; decide) (by decide) ⟨fun z => by omega, fun z => by omega, fun _ => m.1⟩
                by_cases full : (sH S).length = 64
                · obtain ⟨τ, a, b⟩ := key
                  rw [if_pos full] at e
                  have an : ansJ S h n t = (12, none, none, t) := by
                    unfold ansJ
                    rw [if_neg (by omega), if_pos c131, if_pos full]
                  rw [an] at a b
                  have nz : ¬ hlpF E S h = 0 := by
                    have nzg : ∀ G : Int, ¬ fst G 12 = 0 := fun G => by
                      unfold fst
                      split
                      · decide
                      · assumption
                    rw [e]
                    exact nzg _
                  have ej : hlpJ E S h n t = (hlpF E S h, none, none, t) := if_pos nz
                  rw [ej, e]
                  generalize fst (wntM E (rgV S 1) 3 3) (fst (wntA (rgV S 2) (decide (vk (rgV S 2) = 1 ∧ isC (vn (rgV S 2)) ∧ 1 ≤ (jV (vn (rgV S 2))).toInt ∧ (jV (vn (rgV S 2))).toInt ≤ 64))) (fst (wntK (rgV S 3) 1) (endF S h))) = G at *
                  unfold fst
                  by_cases g0 : G = 0
                  · rw [if_pos g0] at a b ⊢
                    exact ⟨τ, a, spj_f (by decide) b.1⟩
                  · rw [if_neg g0] at a b ⊢
                    exact ⟨τ, a, spj_f g0 b⟩
                · refine T283w (fun _ _ => full) ?_
                  rw [e, if_neg full, fst_z]
                  exact key
              · by_cases c3 : h = 132 ∨ h = 133
                · rw [L283a (jx := 86) (by decide) (by rw [if_neg c1, if_neg c2, if_neg c6, if_neg c12, if_neg c26, if_neg c44, if_neg c131, if_pos c3]) (Or.inl (by rw [st_86]; decide))]
                  refine T283w (fun _ z => by omega) ?_
                  have e : hlpF E S h = fst (wntA (rgV S 1) (decide (vk (rgV S 1) = 9 ∧ vo (rgV S 1) = 0 ∧ isC (vn (rgV S 1)) ∧ jV (vn (rgV S 1)) = 0#64))) (fst (wntK (rgV S 2) 1) (endF S h)) := by
                    have z : endF S h = 0 := if_neg (by omega)
                    rw [z, fst_z]
                    unfold hlpF
                    rw [if_neg c1, if_neg c2, if_neg (by omega), if_neg c6, if_neg c12, if_neg c26, if_neg c44, if_neg c131, if_pos c3]
                  rw [e]
                  refine fin_s (i := 0) (r := 1) (c := 104) H hS P (by decide) (by rw [st_86]; decide) (by decide) (by rw [st_86]; rfl) (by decide) (by rw [st_86]; rfl) (by decide) (N (by decide) (by omega) (dB Iff.rfl)) (fun z1 => ?_)
                  refine fin_s (i := 2) (r := 2) (c := 110) H hS P (by decide) (by rw [st_86]; decide) (by decide) (by rw [st_86]; rfl) (by decide) (by rw [st_86]; rfl) (by decide) (N (by decide) (by omega) (dB Iff.rfl)) (fun z2 => ?_)
                  exact fin_e (i := 4) H hS P ht h4 h3 (by decide) (by rw [st_86]; decide) (by decide) ⟨fun z => by omega, fun z => by omega, fun z => by omega⟩
                · have e87 : (if h = 1 ∨ h = 3 then 79 else if h = 2 then 80 else if h = 6 then 81 else if h = 12 then 82 else if h = 26 then 83 else if h = 44 then 84 else if h = 131 then 85 else if h = 132 ∨ h = 133 then 86 else 87) = 87 := by rw [if_neg c1, if_neg c2, if_neg c6, if_neg c12, if_neg c26, if_neg c44, if_neg c131, if_neg c3]
                  by_cases c57 : h = 5 ∨ h = 7
                  · rw [L283a (jx := 87) (by decide) e87 (Or.inr c57)]
                    refine T283w (fun _ z => by omega) ?_
                    have e : hlpF E S h = endF S h := by
                      have z : endF S h = 0 := if_neg c12
                      rw [z]
                      unfold hlpF
                      rw [if_neg c1, if_neg c2, if_pos c57]
                    rw [e]
                    exact fin_e (i := 0) H hS P ht h4 h3 (by decide) (by rw [st_87]; decide) (by decide) ⟨fun z => by omega, fun z => by omega, fun z => by omega⟩
                  · have t82 := T282 (σ := σ) (h := h)
                    rw [e87] at t82
                    have hj : 87 < stN := by decide
                    have a := eq_true (ao_tx (σ := σ) hj)
                    have t73 := T573t (σ := σ) hj
                    rw [st_87] at t73
                    have t73 : MM 573 [mR (some (strK + 87))] σ = some (some (mI 0), σ) := t73
                    have n5 : ¬ h = 5 := fun z => c57 (Or.inl z)
                    have n7 : ¬ h = 7 := fun z => c57 (Or.inr z)
                    have e : hlpF E S h = 8 := by
                      unfold hlpF
                      rw [if_neg c1, if_neg c2, if_neg c57, if_neg c6, if_neg c12, if_neg c26, if_neg c44, if_neg c131, if_neg c3]
                    have ej : hlpJ E S h n t = (8, none, none, t) := by
                      unfold hlpJ
                      rw [e, if_pos (by decide)]
                    rw [ej]
                    refine okc_o (τ := σ) ?_ (spj_f (by decide) (sfq_r _ _ _))
                    simp only [M283, e283_0, e283_4, e283_9, Option.getD_some, Option.bind_some, Option.toList_some, Option.toList_none, List.cons_append, List.nil_append, and_self, and_true, true_and, false_and, and_false, ite_self, not_true_eq_false, not_false_eq_true, reduceIte, Nat.reduceEqDiff, ab_I, ab_L, ab_R, ao_I, ao_L, ao_R, gL_sL, gI_sI, gR_sR, gI_sL, gI_sR, gL_sI, gL_sR, gR_sI, gR_sL, t82, a, t73, eq_false n5, eq_false n7]
end CHL3
-- FILE 99.cgo2
/-! ===== the class's step, against stpJ ===== -/
section CGO2
variable {τ σ ρ : MS} {k j : Nat} {E : EV} {w w2 : B64} {S : ST} {t n : Int}
theorem fI_hi (w : B64) : BitVec.ofInt 64 (fI w) &&& cF = lUsh w 32 := by
  apply BitVec.eq_of_toNat_eq
  rw [low32, show lUsh w 32 = lUsh w ((32 : Nat) : Int) from rfl, lUsh_k w (by decide), BitVec.toNat_ushiftRight, Nat.shiftRight_eq_div_pow, BitVec.toNat_ofInt]
  have l := w.isLt
  have e := BitVec.toInt_eq_toNat_cond w
  unfold fI
  have p : ((2 ^ 64 : Nat) : Int) = 18446744073709551616 := by decide
  have p2 : (2 : Nat) ^ 32 = 4294967296 := by decide
  rw [p, p2]
  by_cases h : 2 * w.toNat < 2 ^ 64
  · rw [if_pos h] at e
    rw [e]
    omega
  · rw [if_neg h] at e
    rw [e]
    omega
theorem pair_v (h : w2 &&& cF = 0#64) : (BitVec.ofInt 64 (fI w) &&& cF) ||| (w2 &&& ~~~ cF) = lUsh w 32 ||| w2 := by rw [fI_hi, and_not h]
theorem T246 {i : Int} (H : SC σ k j E w) (hS : CSt σ k S) (P : PX S E t) (ht : gI σ 40 8 = t) (h4 : gI σ 40 4 = i + 1) (h3 : gI σ 40 3 = 0) (hi : 0 ≤ i ∧ i < 100000) (hw : okPr w w2) (h0 : fL w = 0) : okc (MM 246 [mR (some 40), mL w2] σ) (some (mI (stpJ E S i w w2 t).1)) (fun τ => spj σ τ k j (stpJ E S i w w2 t)) := by
  obtain ⟨⟨_, hd, _, z2⟩, hs⟩ := hw
  have F := PX_F P
  have sc := sc_c H
  have d9 : dR w ≤ 9 := by have := dR_9 hd; omega
  have l := pR_lt F (show dR w ≤ 10 by omega)
  have t41 := T241 H hS F (show fD w ≤ 10 by omega)
  have e2 : i + 1 + 1 = i + 2 := by omega
  have wi : w32 (gI σ 40 4 + 1) = i + 2 := by
    rw [h4, e2]
    exact w32_i (by omega) (by omega)
  obtain ⟨σ1, e1⟩ : ∃ σ1, σ1 = sI σ 40 4 (i + 2) := ⟨_, rfl⟩
  have q1 : sfq σ1 σ k j := by rw [e1]; exact sfq_i (by omega)
  have H1 := SC_q q1 H
  have S1 : CSt σ1 k S := by rw [e1]; exact CSt_i sc hS
  have u8 : gI σ1 40 8 = t := by rw [e1, gI_sI, if_neg (by omega)]; exact ht
  have u4 : gI σ1 40 4 = i + 2 := by rw [e1, gI_sI, if_pos ⟨rfl, rfl⟩]
  have u3 : gI σ1 40 3 = 0 := by rw [e1, gI_sI, if_neg (by omega)]; exact h3
  have s22 : MM 246 [mR (some 40), mL w2] σ = RR (lkB tb246) (B246_22, [some (mR (some 40)), some (mL w2), none, some (mI ((pR S (dR w) : Nat) : Int))], [mI (fS w)], σ1) := by
    simp only [M246, e246_0, e246_4, Option.getD_some, Option.bind_some, Option.toList_some, Option.toList_none, List.cons_append, List.nil_append, and_self, and_true, true_and, false_and, and_false, ite_self, not_true_eq_false, not_false_eq_true, reduceIte, Nat.reduceEqDiff, ab_I, ab_L, ab_R, ao_I, ao_L, ao_R, gL_sL, gI_sI, gR_sR, gI_sL, gI_sR, gL_sI, gL_sR, gR_sI, gR_sL, t41, wi, ← e1, sc_w H1, T2]
  rw [s22]
  unfold stpJ
  rw [if_pos h0]
  rcases hs with s0 | ⟨s1, i0, i7, _⟩
  · rw [if_pos s0, pair_v z2]
    have n1 : ¬ fS w = 1 := by omega
    have t61 := T61 (σ := σ1) (k := 42) (x1 := lUsh w 32 ||| w2) (kc_42 _)
    obtain ⟨σ2, h2⟩ : ∃ σ2, σ2 = wC σ1 42 (cstN (lUsh w 32 ||| w2)) := ⟨_, rfl⟩
    rw [← h2] at t61
    have q2 : nfq σ2 σ1 := by rw [h2]; exact nfq_w (by omega)
    have r42 : rC σ2 42 = cstN (lUsh w 32 ||| w2) := by rw [h2, rC_wC, if_pos rfl]
    have H2 := SC_n q2 H1
    obtain ⟨τ1, t18, q3⟩ := T218 (j := 42) (sc_k H2) (kc_42 _) (by omega) l
    rw [r42] at q3
    have sp := spo_w (j := j) H1 S1 F d9 q2 q3
    obtain ⟨y1, y2, y3, y4⟩ := sp.2 rfl
    refine okc_o (τ := τ1) ?_ ⟨sfq_t sp.1 q1, fun _ => ⟨y4.trans u8, y1, y2.trans u4, y3.trans u3⟩⟩
    simp only [e246_22, e246_83, e246_95, Option.getD_some, Option.bind_some, Option.toList_some, Option.toList_none, List.cons_append, List.nil_append, and_self, and_true, true_and, false_and, and_false, ite_self, not_true_eq_false, not_false_eq_true, reduceIte, Nat.reduceEqDiff, ab_I, ab_L, ab_R, ao_I, ao_L, ao_R, gL_sL, gI_sI, gR_sR, gI_sL, gI_sR, gL_sI, gL_sR, gR_sI, gR_sL, n1, sc_w H1, t61, sc_h H2, sc_ao H2, t18]
  · rw [if_neg (show ¬ fS w = 0 by omega)]
    obtain ⟨m, hm⟩ : ∃ m : Nat, fI w = (m : Int) := ⟨(fI w).toNat, by omega⟩
    have t44 := T44 (m := m) H1.2.2.2.1 (by omega)
    rw [hm]
    by_cases tl : E.1 (m : Int).toNat < 0
    · rw [if_pos tl]
      rw [Int.toNat_natCast] at tl
      rw [b2_no (show ¬ 0 ≤ E.1 m by omega)] at t44
      refine okc_o (τ := σ1) ?_ (spj_f (by show ¬ (15 : Int) = 0; decide) q1)
      simp only [e246_22, e246_37, e246_40, Option.getD_some, Option.bind_some, Option.toList_some, Option.toList_none, List.cons_append, List.nil_append, and_self, and_true, true_and, false_and, and_false, ite_self, not_true_eq_false, not_false_eq_true, reduceIte, Nat.reduceEqDiff, ab_I, ab_L, ab_R, ao_I, ao_L, ao_R, gL_sL, gI_sI, gR_sR, gI_sL, gI_sR, gL_sI, gL_sR, gR_sI, gR_sL, eq_true s1, sc_w H1, T4, hm, t44]
    · rw [if_neg tl]
      rw [Int.toNat_natCast] at tl
      rw [b2_yes (show 0 ≤ E.1 m by omega)] at t44
      obtain ⟨τ1, t17, q3⟩ := T217 (kn := 4) (w := (m : Int)) (t := 0) (sc_k H1) l
      have sp := spo_w (j := j) H1 S1 F d9 (nfq_r σ1) q3
      obtain ⟨y1, y2, y3, y4⟩ := sp.2 rfl
      refine okc_o (τ := τ1) ?_ ⟨sfq_t sp.1 q1, fun _ => ⟨y4.trans u8, y1, y2.trans u4, y3.trans u3⟩⟩
      simp only [e246_22, e246_37, e246_40, e246_59, e246_64, e246_95, Option.getD_some, Option.bind_some, Option.toList_some, Option.toList_none, List.cons_append, List.nil_append, and_self, and_true, true_and, false_and, and_false, ite_self, not_true_eq_false, not_false_eq_true, reduceIte, Nat.reduceEqDiff, ab_I, ab_L, ab_R, ao_I, ao_L, ao_R, gL_sL, gI_sI, gR_sR, gI_sL, gI_sR, gL_sI, gL_sR, gR_sI, gR_sL, eq_true s1, sc_w H1, T4, hm, t44, oneI, sc_h H1, sc_ao H1, t17]
/-- the head of a step -/
abbrev hdS (σ : MS) (k j : Nat) (w : B64) : MS := sL (sI (sR (sR σ 40 1 (some k)) 40 2 (some j)) 40 3 0) 40 6 w
abbrev hdr (σ : MS) (k j : Nat) (w : B64) (n : Int) : MS := sI (sI (hdS σ k j w) 40 7 (fOp w)) 40 4 n
theorem CSt_hdr (hk : stC k) (c : CSt σ k S) {a b : Nat} : CSt (hdr σ a b w n) k S := CSt_q (σ := σ) (τ := hdr σ a b w n)
  (fun s => by show gI (sI (sI (sI σ 40 3 0) 40 7 (fOp w)) 40 4 n) _ _ = _; rw [gI_sI, if_neg (by omega), gI_sI, if_neg (by omega), gI_sI, if_neg (by omega)])
  (fun s => by show gI (sI (sI (sI σ 40 3 0) 40 7 (fOp w)) 40 4 n) _ _ = _; rw [gI_sI, if_neg (by omega), gI_sI, if_neg (by omega), gI_sI, if_neg (by omega)])
  (fun s => by show gI (sI (sI (sI σ 40 3 0) 40 7 (fOp w)) 40 4 n) _ _ = _; rw [gI_sI, if_neg (by omega), gI_sI, if_neg (by omega), gI_sI, if_neg (by omega)])
  (fun s => by show gL (sL σ 40 6 w) _ _ = _; rw [gL_sL, if_neg (by omega)]) c
theorem SC_hdr (hk : isSt σ k) (hj : isSt σ j) (dd : k + 3 < j ∨ j + 3 < k) (sk : stC k) (sj : stC j) (C : CEO σ E) (r41 : rC σ 41 = cstN 0#64) : SC (hdr σ k j w n) k j E w := by
  refine ⟨⟨⟨hk, hj⟩, dd, sk, sj⟩, ⟨?_, ?_⟩, ⟨?_, ?_⟩, ?_, ?_⟩
  · show gR (sR (sR σ 40 1 (some k)) 40 2 (some j)) 40 1 = some k
    rw [gR_sR, if_neg (by omega), gR_sR, if_pos ⟨rfl, rfl⟩]
  · show gR (sR (sR σ 40 1 (some k)) 40 2 (some j)) 40 2 = some j
    rw [gR_sR, if_pos ⟨rfl, rfl⟩]
  · show gL (sL σ 40 6 w) 40 6 = w
    rw [gL_sL, if_pos ⟨rfl, rfl⟩]
  · show gI (sI (sI (sI σ 40 3 0) 40 7 (fOp w)) 40 4 n) 40 7 = fOp w
    rw [gI_sI, if_neg (by omega), gI_sI, if_pos ⟨rfl, rfl⟩]
  · have e : ∀ q s, ¬ q = 40 → gI (hdr σ k j w n) q s = gI σ q s := fun q s h => by
      show gI (sI (sI (sI σ 40 3 0) 40 7 (fOp w)) 40 4 n) _ _ = _
      rw [gI_sI, if_neg (fun z => h z.1), gI_sI, if_neg (fun z => h z.1), gI_sI, if_neg (fun z => h z.1)]
    intro m hm
    rw [e 31 m (by decide), e 32 m (by decide), e 29 m (by decide), e 30 m (by decide)]
    exact C m hm
  · have e : ∀ s, gL (hdr σ k j w n) 41 s = gL σ 41 s := fun s => by
      show gL (sL σ 40 6 w) _ _ = _
      rw [gL_sL, if_neg (fun z => absurd z.1 (by decide))]
    rw [← r41]
    unfold rC
    rw [e, e, e, e, e, e]
theorem L240 {c i : Nat} (hk : isSt σ k) (hj : isSt σ j) (sk : stC k) (kc : (kd σ c).1 = 4) (hi : i < (kd σ c).2) (g5 : gI σ k 5 = (i : Int)) (gw : gL σ c i = w) : MM 240 [mR (some 40), mR (some k), mR (some j), mR (some c)] σ = RR (lkB tb240) (B240_36, [some (mR (some 40)), some (mR (some k)), some (mR (some j)), some (mR (some c))], [mI (fOp w), mR (some 40)], hdS σ k j w) := by
  have a9 : ao σ 9 (some 40) = True := eq_true ⟨rfl, rfl⟩
  have a1 : ak σ 2 (some k) = True := eq_true (fun _ => by show (kd σ k).1 = 28; rw [hk.1])
  have a2 : ak σ 2 (some j) = True := eq_true (fun _ => by show (kd σ j).1 = 28; rw [hj.1])
  have a8 : ao σ 8 (some k) = True := aoS hk
  have g : (Option.isSome (some c) = true ∧ ab σ 4 c (i : Int)) = True := eq_true ⟨rfl, kc, by omega, by omega⟩
  have nk : ¬ k = 40 := by omega
  simp only [M240, e240_0, e240_15, Option.getD_some, Option.bind_some, Option.toList_some, Option.toList_none, List.cons_append, List.nil_append, and_self, and_true, true_and, false_and, and_false, ite_self, not_true_eq_false, not_false_eq_true, reduceIte, Nat.reduceEqDiff, ab_I, ab_L, ab_R, ao_I, ao_L, ao_R, gL_sL, gI_sI, gR_sR, gI_sL, gI_sR, gL_sI, gL_sR, gR_sI, gR_sL, a9, a1, a2, a8, nk, g5, g, Int.toNat_natCast, gw, T0]
theorem T240 {c i : Nat} (hk : isSt σ k) (hj : isSt σ j) (dd : k + 3 < j ∨ j + 3 < k) (sk : stC k) (sj : stC j) (C : CEO σ E) (r41 : rC σ 41 = cstN 0#64) (kc : (kd σ c).1 = 4) (hi : i < (kd σ c).2) (hi2 : i < 50000) (g5 : gI σ k 5 = (i : Int)) (gw : gL σ c i = w) (hS : CSt σ k S) (P : PX S E t) (hE : okE E) (ht : gI σ 40 8 = t) (hl : ak σ 2 (gR σ k 6))
    (hw : okPl w ∨ (i + 1 < (kd σ c).2 ∧ gL σ c (i + 1) = w2 ∧ okPr w w2 ∧ fL w = 0)) (hg : -2147483648 ≤ goal i w ∧ goal i w < 2147483648) :
    okc (MM 240 [mR (some 40), mR (some k), mR (some j), mR (some c)] σ) (some (mI (stpJ E S i w w2 t).1)) (fun τ => spj (hdr σ k j w ((i : Int) + 1)) τ k j (stpJ E S i w w2 t)) := by
  rw [L240 hk hj sk kc hi g5 gw]
  have H := SC_hdr (n := (i : Int) + 1) (w := w) hk hj dd sk sj C r41
  have S0 : CSt (hdr σ k j w ((i : Int) + 1)) k S := CSt_hdr sk hS
  have nk : ¬ k = 40 := by omega
  have v4 : gI (hdr σ k j w ((i : Int) + 1)) 40 4 = (i : Int) + 1 := by rw [gI_sI, if_pos ⟨rfl, rfl⟩]
  have v3 : gI (hdr σ k j w ((i : Int) + 1)) 40 3 = 0 := by
    show gI (sI (sI (sI σ 40 3 0) 40 7 (fOp w)) 40 4 ((i : Int) + 1)) 40 3 = 0
    rw [gI_sI, if_neg (by omega), gI_sI, if_neg (by omega), gI_sI, if_pos ⟨rfl, rfl⟩]
  have v8 : gI (hdr σ k j w ((i : Int) + 1)) 40 8 = t := by
    show gI (sI (sI (sI σ 40 3 0) 40 7 (fOp w)) 40 4 ((i : Int) + 1)) 40 8 = t
    rw [gI_sI, if_neg (by omega), gI_sI, if_neg (by omega), gI_sI, if_neg (by omega)]
    exact ht
  have vl : ak (hdr σ k j w ((i : Int) + 1)) 2 (gR (hdr σ k j w ((i : Int) + 1)) k 6) := by
    have e : gR (hdr σ k j w ((i : Int) + 1)) k 6 = gR σ k 6 := by
      show gR (sR (sR σ 40 1 (some k)) 40 2 (some j)) k 6 = gR σ k 6
      rw [gR_sR, if_neg (fun z => nk z.1), gR_sR, if_neg (fun z => nk z.1)]
    rw [e]
    exact hl
  -- the state behind the head
  have h1 : gR (hdS σ k j w) 40 1 = some k := H.2.1.1
  have a8 : ao (hdS σ k j w) 8 (some k) = True := aoS hk
  have u5 : gI (hdS σ k j w) k 5 = (i : Int) := by
    show gI (sI σ 40 3 0) k 5 = _
    rw [gI_sI, if_neg (fun z => nk z.1)]
    exact g5
  have u6 : gL (hdS σ k j w) 40 6 = w := H.2.2.1.1
  have wi : w32 ((i : Int) + 1) = (i : Int) + 1 := w32_i (by omega) (by omega)
  have kc' : (kd (hdS σ k j w) c).1 = 4 := kc
  have k2' : (kd (hdS σ k j w) c).2 = (kd σ c).2 := rfl
  have uc : ∀ s, gL (hdS σ k j w) c s = gL σ c s := fun s => by
    have nc : ¬ c = 40 := fun z => by
      rw [z] at kc
      exact absurd (show (29 : Nat) = 4 from kc) (by decide)
    show gL (sL σ 40 6 w) c s = gL σ c s
    rw [gL_sL, if_neg (fun z => nc z.1)]
  generalize hh : hdS σ k j w = σ6 at *
  obtain ⟨σ7, h7⟩ : ∃ σ7, σ7 = sI (sI σ6 40 7 (fOp w)) 40 4 ((i : Int) + 1) := ⟨_, rfl⟩
  have eh : hdr σ k j w ((i : Int) + 1) = σ7 := by rw [h7, ← hh]
  rw [eh] at H S0 v4 v3 v8 vl ⊢
  have w7 : iAnd (fOp w) 7 = fL w := m7 w
  have w224 : iAnd (fOp w) 224 = fM w := m224 w
  have r8 := fld_rng w
  have f8 : 0 ≤ fL w ∧ fL w < 8 := by unfold fL; omega
  rcases hw with hw | ⟨i1, gw2, hw, f0⟩
  · by_cases f0 : fL w = 0
    · unfold okPl at hw
      rw [if_pos f0] at hw
      exact hw.elim
    · unfold okPl at hw
      rw [if_neg f0] at hw
      unfold stpJ
      rw [if_neg f0]
      by_cases f47 : fL w = 4 ∨ fL w = 7
      · rw [if_pos f47] at hw ⊢
        obtain ⟨τ, a, b⟩ := T247 H S0 P v8 hw f47
        rw [v4] at b
        rw [wayJ_1]
        refine okc_o (τ := τ) ?_ (spj_1 v3 b)
        rcases f47 with f | f
        · simp only [e240_36, e240_223, Option.getD_some, Option.bind_some, Option.toList_some, Option.toList_none, List.cons_append, List.nil_append, and_self, and_true, true_and, false_and, and_false, ite_self, not_true_eq_false, not_false_eq_true, reduceIte, Nat.reduceEqDiff, ab_I, ab_L, ab_R, ao_I, ao_L, ao_R, gL_sL, gI_sI, gR_sR, gI_sL, gI_sR, gL_sI, gL_sR, gR_sI, gR_sL, h1, a8, nk, u5, wi, ← h7, sc_p H, sc_w H, w7, f, Int.reduceEq, a]
        · simp only [e240_36, e240_223, Option.getD_some, Option.bind_some, Option.toList_some, Option.toList_none, List.cons_append, List.nil_append, and_self, and_true, true_and, false_and, and_false, ite_self, not_true_eq_false, not_false_eq_true, reduceIte, Nat.reduceEqDiff, ab_I, ab_L, ab_R, ao_I, ao_L, ao_R, gL_sL, gI_sI, gR_sR, gI_sL, gI_sR, gL_sI, gL_sR, gR_sI, gR_sL, h1, a8, nk, u5, wi, ← h7, sc_p H, sc_w H, w7, f, Int.reduceEq, a]
      · rw [if_neg f47] at hw ⊢
        by_cases f56 : fL w = 5 ∨ fL w = 6
        · rw [if_pos f56] at hw ⊢
          unfold okJmp at hw
          have o56 : fOp w % 8 = 5 ∨ fOp w % 8 = 6 := f56
          by_cases g56 : fOp w = 5 ∨ fOp w = 6
          · rw [if_pos g56]
            obtain ⟨τ, a, b⟩ := T262g (i := (i : Int)) H S0 v8 v4 v3 g56 hg
            have n149 : ¬ fOp w = 149 := by omega
            have n133 : ¬ fOp w = 133 := by omega
            refine okc_o (τ := τ) ?_ b
            rcases f56 with f | f
            · simp only [e240_36, e240_218, Option.getD_some, Option.bind_some, Option.toList_some, Option.toList_none, List.cons_append, List.nil_append, and_self, and_true, true_and, false_and, and_false, ite_self, not_true_eq_false, not_false_eq_true, reduceIte, Nat.reduceEqDiff, ab_I, ab_L, ab_R, ao_I, ao_L, ao_R, gL_sL, gI_sI, gR_sR, gI_sL, gI_sR, gL_sI, gL_sR, gR_sI, gR_sL, h1, a8, nk, u5, wi, ← h7, sc_p H, sc_w H, w7, f, Int.reduceEq, n149, n133, a]
            · simp only [e240_36, e240_218, Option.getD_some, Option.bind_some, Option.toList_some, Option.toList_none, List.cons_append, List.nil_append, and_self, and_true, true_and, false_and, and_false, ite_self, not_true_eq_false, not_false_eq_true, reduceIte, Nat.reduceEqDiff, ab_I, ab_L, ab_R, ao_I, ao_L, ao_R, gL_sL, gI_sI, gR_sR, gI_sL, gI_sR, gL_sI, gL_sR, gR_sI, gR_sL, h1, a8, nk, u5, wi, ← h7, sc_p H, sc_w H, w7, f, Int.reduceEq, n149, n133, a]
          · rw [if_neg g56]
            rw [if_neg (fun z => g56 (Or.inl z)), if_neg (fun z => g56 (Or.inr z))] at hw
            by_cases g149 : fOp w = 149
            · rw [if_pos g149]
              obtain ⟨τ, a, b⟩ := T261 H S0 P v8 v3
              have f : fL w = 5 := by unfold fL; omega
              refine okc_o (τ := τ) ?_ b
              simp only [e240_36, e240_173, Option.getD_some, Option.bind_some, Option.toList_some, Option.toList_none, List.cons_append, List.nil_append, and_self, and_true, true_and, false_and, and_false, ite_self, not_true_eq_false, not_false_eq_true, reduceIte, Nat.reduceEqDiff, ab_I, ab_L, ab_R, ao_I, ao_L, ao_R, gL_sL, gI_sI, gR_sR, gI_sL, gI_sR, gL_sI, gL_sR, gR_sI, gR_sL, h1, a8, nk, u5, wi, ← h7, sc_p H, sc_w H, w7, f, Int.reduceEq, eq_true g149, a]
            · rw [if_neg g149]
              by_cases g133 : fOp w = 133
              · rw [if_pos g133]
                rw [if_pos g133] at hw
                have f : fL w = 5 := by unfold fL; omega
                have eg : goal i w = (i : Int) + 1 + fI w := by
                  unfold goal
                  rw [if_pos (Or.inr g133)]
                have s191 : RR (lkB tb240) (B240_36, [some (mR (some 40)), some (mR (some k)), some (mR (some j)), some (mR (some c))], [mI (fOp w), mR (some 40)], σ6) = RR (lkB tb240) (B240_191, [some (mR (some 40)), some (mR (some k)), some (mR (some j)), some (mR (some c))], [mI (fS w)], σ7) := by
                  simp only [e240_36, Option.getD_some, Option.bind_some, Option.toList_some, Option.toList_none, List.cons_append, List.nil_append, and_self, and_true, true_and, false_and, and_false, ite_self, not_true_eq_false, not_false_eq_true, reduceIte, Nat.reduceEqDiff, ab_I, ab_L, ab_R, ao_I, ao_L, ao_R, gL_sL, gI_sI, gR_sR, gI_sL, gI_sR, gL_sI, gL_sR, gR_sI, gR_sL, h1, a8, nk, u5, wi, ← h7, sc_p H, sc_w H, w7, f, Int.reduceEq, eq_false g149, eq_true g133, T2]
                rw [s191]
                by_cases s1 : fS w = 1
                · rw [if_pos s1]
                  rw [eg] at hg ⊢
                  obtain ⟨τ, a, b⟩ := T260 H S0 P v8 v4 v3 hg
                  refine okc_o (τ := τ) ?_ b
                  simp only [e240_191, e240_199, e240_213, Option.getD_some, Option.bind_some, Option.toList_some, Option.toList_none, List.cons_append, List.nil_append, and_self, and_true, true_and, false_and, and_false, ite_self, not_true_eq_false, not_false_eq_true, reduceIte, Nat.reduceEqDiff, ab_I, ab_L, ab_R, ao_I, ao_L, ao_R, gL_sL, gI_sI, gR_sR, gI_sL, gI_sR, gL_sI, gL_sR, gR_sI, gR_sL, eq_true s1, a]
                · rw [if_neg s1]
                  obtain ⟨τ, a, b⟩ := T283 (h := fI w) H S0 P hE v8 v4 v3
                  refine okc_o (τ := τ) ?_ b
                  simp only [e240_191, e240_210, e240_213, Option.getD_some, Option.bind_some, Option.toList_some, Option.toList_none, List.cons_append, List.nil_append, and_self, and_true, true_and, false_and, and_false, ite_self, not_true_eq_false, not_false_eq_true, reduceIte, Nat.reduceEqDiff, ab_I, ab_L, ab_R, ao_I, ao_L, ao_R, gL_sL, gI_sI, gR_sR, gI_sL, gI_sR, gL_sI, gL_sR, gR_sI, gR_sL, eq_false s1, sc_w H, T4, a]
              · rw [if_neg g133]
                rw [if_neg g133, if_neg g149] at hw
                have cm : isCmp (fC w) := by
                  have q := hw.1.1
                  unfold fC
                  have : fOp w / 16 = 1 ∨ fOp w / 16 = 2 ∨ fOp w / 16 = 3 ∨ fOp w / 16 = 4 ∨ fOp w / 16 = 5 ∨ fOp w / 16 = 6 ∨ fOp w / 16 = 7 ∨ fOp w / 16 = 10 ∨ fOp w / 16 = 11 ∨ fOp w / 16 = 12 ∨ fOp w / 16 = 13 := by omega
                  rcases this with z | z | z | z | z | z | z | z | z | z | z <;> rw [z] <;> decide
                have c0 : ¬ fC w = 0 := fun z => by rw [z] at cm; exact absurd cm (by decide)
                have hs : rgt w → fS w ≤ 10 := fun r => by
                  have := hw.2
                  rw [if_pos r] at this
                  exact this.1
                obtain ⟨τ, a, b⟩ := T262c (i := (i : Int)) H S0 P v8 v4 v3 vl c0 cm f56 hw.1.2 hs hg
                refine okc_o (τ := τ) ?_ b
                rcases f56 with f | f
                · simp only [e240_36, e240_218, Option.getD_some, Option.bind_some, Option.toList_some, Option.toList_none, List.cons_append, List.nil_append, and_self, and_true, true_and, false_and, and_false, ite_self, not_true_eq_false, not_false_eq_true, reduceIte, Nat.reduceEqDiff, ab_I, ab_L, ab_R, ao_I, ao_L, ao_R, gL_sL, gI_sI, gR_sR, gI_sL, gI_sR, gL_sI, gL_sR, gR_sI, gR_sL, h1, a8, nk, u5, wi, ← h7, sc_p H, sc_w H, w7, f, Int.reduceEq, eq_false g149, eq_false g133, a]
                · simp only [e240_36, e240_218, Option.getD_some, Option.bind_some, Option.toList_some, Option.toList_none, List.cons_append, List.nil_append, and_self, and_true, true_and, false_and, and_false, ite_self, not_true_eq_false, not_false_eq_true, reduceIte, Nat.reduceEqDiff, ab_I, ab_L, ab_R, ao_I, ao_L, ao_R, gL_sL, gI_sI, gR_sR, gI_sL, gI_sR, gL_sI, gL_sR, gR_sI, gR_sL, h1, a8, nk, u5, wi, ← h7, sc_p H, sc_w H, w7, f, Int.reduceEq, eq_false g149, eq_false g133, a]
        · rw [if_neg f56] at hw ⊢
          by_cases f1 : fL w = 1
          · rw [if_pos f1]
            obtain ⟨τ, a, b⟩ := T255 H S0 P v8 hw f1
            rw [v4] at b
            rw [wayJ_1]
            refine okc_o (τ := τ) ?_ (spj_1 v3 b)
            simp only [e240_36, e240_128, Option.getD_some, Option.bind_some, Option.toList_some, Option.toList_none, List.cons_append, List.nil_append, and_self, and_true, true_and, false_and, and_false, ite_self, not_true_eq_false, not_false_eq_true, reduceIte, Nat.reduceEqDiff, ab_I, ab_L, ab_R, ao_I, ao_L, ao_R, gL_sL, gI_sI, gR_sR, gI_sL, gI_sR, gL_sI, gL_sR, gR_sI, gR_sL, h1, a8, nk, u5, wi, ← h7, sc_p H, sc_w H, w7, f1, Int.reduceEq, a]
          · rw [if_neg f1]
            by_cases f3 : fL w = 3 ∧ fM w = 192
            · rw [if_pos f3]
              obtain ⟨τ, a, b⟩ := T259 H S0 P v8 hw f3
              rw [v4] at b
              rw [wayJ_1]
              refine okc_o (τ := τ) ?_ (spj_1 v3 b)
              simp only [e240_36, e240_158, Option.getD_some, Option.bind_some, Option.toList_some, Option.toList_none, List.cons_append, List.nil_append, and_self, and_true, true_and, false_and, and_false, ite_self, not_true_eq_false, not_false_eq_true, reduceIte, Nat.reduceEqDiff, ab_I, ab_L, ab_R, ao_I, ao_L, ao_R, gL_sL, gI_sI, gR_sR, gI_sL, gI_sR, gL_sI, gL_sR, gR_sI, gR_sL, h1, a8, nk, u5, wi, ← h7, sc_p H, sc_w H, w7, w224, f3.1, f3.2, Int.reduceEq, a]
            · rw [if_neg f3]
              have hm : fL w = 2 ∨ fL w = 3 ∧ fM w = 96 := by
                by_cases f2 : fL w = 2
                · exact Or.inl f2
                · right
                  have f3' : fL w = 3 := by omega
                  refine ⟨f3', ?_⟩
                  apply Classical.byContradiction
                  intro z
                  unfold okMem at hw
                  rw [if_neg f1, if_neg f2, if_neg z] at hw
                  have o := hw.1.1
                  have : fM w = 192 := by unfold fM; omega
                  exact f3 ⟨f3', this⟩
              obtain ⟨τ, a, b⟩ := T257 H S0 P v8 hw hm
              rw [v4] at b
              rw [wayJ_1]
              refine okc_o (τ := τ) ?_ (spj_1 v3 b)
              rcases hm with f | f
              · simp only [e240_36, e240_133, Option.getD_some, Option.bind_some, Option.toList_some, Option.toList_none, List.cons_append, List.nil_append, and_self, and_true, true_and, false_and, and_false, ite_self, not_true_eq_false, not_false_eq_true, reduceIte, Nat.reduceEqDiff, ab_I, ab_L, ab_R, ao_I, ao_L, ao_R, gL_sL, gI_sI, gR_sR, gI_sL, gI_sR, gL_sI, gL_sR, gR_sI, gR_sL, h1, a8, nk, u5, wi, ← h7, sc_p H, sc_w H, w7, f, Int.reduceEq, a]
              · simp only [e240_36, e240_151, e240_158, Option.getD_some, Option.bind_some, Option.toList_some, Option.toList_none, List.cons_append, List.nil_append, and_self, and_true, true_and, false_and, and_false, ite_self, not_true_eq_false, not_false_eq_true, reduceIte, Nat.reduceEqDiff, ab_I, ab_L, ab_R, ao_I, ao_L, ao_R, gL_sL, gI_sI, gR_sR, gI_sL, gI_sR, gL_sI, gL_sR, gR_sI, gR_sL, h1, a8, nk, u5, wi, ← h7, sc_p H, sc_w H, w7, w224, f.1, f.2, Int.reduceEq, a]
  · obtain ⟨τ, a, b⟩ := T246 (i := (i : Int)) H S0 P v8 v4 v3 (by omega) hw f0
    refine okc_o (τ := τ) ?_ b
    have nl : ¬ ((kd σ6 c).2 : Int) ≤ (i : Int) + 1 := by rw [k2']; omega
    have i1' : (i : Int) + 1 = ((i + 1 : Nat) : Int) := by omega
    have gd : (Option.isSome (some c) = true ∧ ab σ6 4 c ((i : Int) + 1)) = True := eq_true ⟨rfl, kc', by omega, by rw [k2']; omega⟩
    have kk : (Option.isSome (some c) = true ∧ (kd σ6 c).1 = 4) = True := eq_true ⟨rfl, kc'⟩
    have kd7 : kd σ7 c = kd σ6 c := by rw [h7]; rfl
    have g2 : gL σ7 c (Int.toNat ((i : Int) + 1)) = w2 := by
      rw [i1', Int.toNat_natCast]
      show gL σ7 c (i + 1) = w2
      rw [h7]
      show gL σ6 c (i + 1) = w2
      rw [uc]
      exact gw2
    have v4' : gI σ7 40 4 = (i : Int) + 1 := v4
    have g7 : gI σ7 40 7 = fOp w := sc_p H
    rw [e240_36]
    have hh1 : gR (sI σ6 40 7 (fOp w)) 40 1 = some k := h1
    have aa : ao σ6 8 (some k) := of_eq_true a8
    have u5' : gI (sI σ6 40 7 (fOp w)) k 5 = (i : Int) := by rw [gI_sI, if_neg (fun z => nk z.1)]; exact u5
    have gd7 : (Option.isSome (some c) = true ∧ ab σ7 4 c ((i : Int) + 1)) = True := eq_true ⟨rfl, by rw [kd7]; exact kc', by omega, by rw [kd7, k2']; omega⟩
    rw [hh1, if_pos aa, Option.getD_some, u5', wi, ← h7, g7, w7, if_pos f0, v4']
    simp only [e240_119, Option.getD_some, Option.bind_some, Option.toList_some, Option.toList_none, List.cons_append, List.nil_append, and_self, and_true, true_and, false_and, and_false, ite_self, not_true_eq_false, not_false_eq_true, reduceIte, Nat.reduceEqDiff, ab_I, ab_L, ab_R, ao_I, ao_L, ao_R, gL_sL, gI_sI, gR_sR, gI_sL, gI_sR, gL_sI, gL_sR, gR_sI, gR_sL, kc', nl, gd, gd7, g2, a, kk, kd7]
end CGO2
