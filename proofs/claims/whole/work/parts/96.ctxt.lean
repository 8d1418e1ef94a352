/-! ===== texts: their length, a char ===== -/
section CTXT
variable {σ : MS} {j i : Nat}
theorem kd_tx (h : j < stN) : kd σ (strK + j) = (50, 0) := by
  have e : stN = 117 := rfl
  have e1 : strK = 2000000 := rfl
  have e2 : fxN = 153 := rfl
  have e3 : scrK = 1000000 := rfl
  unfold kd
  rw [if_neg (by omega), if_neg (by omega), if_pos (by omega)]
theorem kd_tb (h : j < stN) : kd σ (strB + j) = (8, (strAt j).length) := by
  have e : stN = 117 := rfl
  have e1 : strK = 2000000 := rfl
  have e2 : fxN = 153 := rfl
  have e3 : scrK = 1000000 := rfl
  have e4 : strB = 3000000 := rfl
  unfold kd
  rw [if_neg (by omega), if_neg (by omega), if_neg (by omega), if_pos (by omega), Nat.add_sub_cancel_left]
theorem ao_tx (h : j < stN) : ao σ 30 (some (strK + j)) := ⟨rfl, by show (kd σ (strK + j)).1 = 50; rw [kd_tx h]⟩
theorem tb_tx : strB + (strK + j - strK) = strB + j := by rw [Nat.add_sub_cancel_left]
set_option maxRecDepth 100000 in
theorem x575_0 {a : Nat} : RR (lkB tb575) (B575_0, [some (mR (some a))], [], σ) = (if ao σ 30 (some a) then (if (-128 : Int) ≤ 0 ∧ (0 : Int) < 128 then some (some (mI 0), σ) else none) else none) := (RR_nop _ _ _ _ _ _).trans ((RR_eS _ 9 _).trans rfl)
set_option maxRecDepth 100000 in
theorem x576_0 {a : Nat} : RR (lkB tb576) (B576_0, [some (mR (some a))], [], σ) = (if ao σ 30 (some a) then (if bl 1 then some (some (mI 1), σ) else none) else none) := (RR_nop _ _ _ _ _ _).trans ((RR_eS _ 9 _).trans rfl)
set_option maxRecDepth 100000 in
theorem x577_0 {b : Nat} {i : Int} : RR (lkB tb577) (B577_0, [some (mR (some b)), some (mI i)], [], σ) = (if Option.isSome (some b) = true ∧ (kd σ b).1 = 8 then (if (0 ≤ i ∧ i < ((kd σ b).2 : Int)) ∧ stW [] ≤ 8 then (if Option.isSome (some b) = true ∧ ab σ 8 b i then (if 0 ≤ iAnd (((strAt (b - strB)).getD i.toNat 0 : Nat) : Int) 255 % 65536 ∧ iAnd (((strAt (b - strB)).getD i.toNat 0 : Nat) : Int) 255 % 65536 < 65536 then some (some (mI (iAnd (((strAt (b - strB)).getD i.toNat 0 : Nat) : Int) 255 % 65536)), σ) else none) else none) else none) else none) := (RR_nop _ _ _ _ _ _).trans ((RR_eS _ 14 _).trans rfl)
def R573 : List Ins := (.arraylength, 4, 8, 0, 0, []) :: (.aload_n 0, 5, 0, 0, 0, []) :: (.invokevirtual 335, 6, 575, 0, 30, []) :: B573_9
set_option maxRecDepth 100000 in
theorem y573_0 {a b : Nat} : RR (lkB tb573) (R573, [some (mR (some a))], [mR (some b)], σ) = (if Option.isSome (some b) = true ∧ (kd σ b).1 = 8 then (if ao σ 30 (some a) then (MM 575 [mR (some a)] σ).bind fun q => RR (lkB tb573) (B573_9, [some (mR (some a))], q.1.toList ++ [mI ((kd σ b).2 : Int)], q.2) else none) else none) := (RR_eS _ 5 _).trans rfl
set_option maxRecDepth 100000 in
theorem x573_0 {a : Nat} : RR (lkB tb573) (B573_0, [some (mR (some a))], [], σ) = (if ao σ 30 (some a) then RR (lkB tb573) (R573, [some (mR (some a))], [mR (some (strB + (a - strK)))], σ) else RR (lkB tb573) (nCf σ)) := (RR_nop _ _ _ _ _ _).trans ((RR_eS _ 2 _).trans rfl)
set_option maxRecDepth 100000 in
theorem x574_0 {a : Nat} {i : Int} : RR (lkB tb574) (B574_0, [some (mR (some a)), some (mI i)], [], σ) = (if ao σ 30 (some a) then (MM 576 [mR (some a)] σ).bind fun q => RR (lkB tb574) (B574_4, [some (mR (some a)), some (mI i)], q.1.toList ++ [], q.2) else none) := (RR_nop _ _ _ _ _ _).trans ((RR_eS _ 7 _).trans rfl)
set_option maxRecDepth 100000 in
theorem x574_4 {a : Nat} {i : Int} : RR (lkB tb574) (B574_4, [some (mR (some a)), some (mI i)], [mI 1], σ) = (if ao σ 30 (some a) then (MM 577 [mR (some (strB + (a - strK))), mI i] σ).bind fun q => RR (lkB tb574) (B574_15, [some (mR (some a)), some (mI i)], q.1.toList ++ [], q.2) else none) := (RR_nop _ _ _ _ _ _).trans ((RR_eS _ 7 _).trans rfl)
set_option maxRecDepth 100000 in
theorem x574_15 {a : Nat} {i y : Int} : RR (lkB tb574) (B574_15, [some (mR (some a)), some (mI i)], [mI y], σ) = (if 0 ≤ y ∧ y < 65536 then some (some (mI y), σ) else none) := (RR_nop _ _ _ _ _ _).trans ((RR_eS _ 3 _).trans rfl)
theorem T575t (h : j < stN) : MM 575 [mR (some (strK + j))] σ = some (some (mI 0), σ) := by
  rw [M575, x575_0, if_pos (ao_tx h), if_pos (by decide)]
theorem T576t (h : j < stN) : MM 576 [mR (some (strK + j))] σ = some (some (mI 1), σ) := by
  rw [M576, x576_0, if_pos (ao_tx h), if_pos (Or.inr rfl)]
theorem iShr_0 (x : Int) : iShr x 0 = x := by
  unfold iShr
  show x / 2 ^ 0 = x
  rw [show (2 : Int) ^ 0 = 1 from rfl, Int.ediv_one]
theorem T573t (h : j < stN) : MM 573 [mR (some (strK + j))] σ = some (some (mI (((strAt j).length : Nat) : Int)), σ) := by
  have k8 : Option.isSome (some (strB + j)) = true ∧ (kd σ (strB + j)).1 = 8 := ⟨rfl, by rw [kd_tb h]⟩
  rw [M573, x573_0, if_pos (ao_tx h), tb_tx, y573_0, if_pos k8, if_pos (ao_tx h), T575t h, kd_tb h]
  show RR (lkB tb573) (B573_9, [some (mR (some (strK + j)))], [mI 0, mI (((strAt j).length : Nat) : Int)], σ) = _
  rw [e573_9, iShr_0]
theorem T577t (h : j < stN) (hi : i < (strAt j).length) (hc : (strAt j).getD i 0 < 256) : MM 577 [mR (some (strB + j)), mI (i : Int)] σ = some (some (mI (((strAt j).getD i 0 : Nat) : Int)), σ) := by
  have a : Option.isSome (some (strB + j)) = true ∧ (kd σ (strB + j)).1 = 8 := ⟨rfl, by rw [kd_tb h]⟩
  have b : (0 ≤ (i : Int) ∧ (i : Int) < ((kd σ (strB + j)).2 : Int)) ∧ stW [] ≤ 8 := ⟨⟨by omega, by rw [kd_tb h]; show (i : Int) < (((strAt j).length : Nat) : Int); omega⟩, by decide⟩
  have c : Option.isSome (some (strB + j)) = true ∧ ab σ 8 (strB + j) (i : Int) := ⟨rfl, by rw [kd_tb h], b.1.1, b.1.2⟩
  have e : iAnd (((strAt j).getD i 0 : Nat) : Int) 255 = (((strAt j).getD i 0 : Nat) : Int) := by
    have e0 : iAnd (((strAt j).getD i 0 : Nat) : Int) 255 = (((strAt j).getD i 0 : Nat) : Int) % 256 := iAnd_mask (k := 8) (by omega)
    rw [e0]
    omega
  rw [M577, x577_0, if_pos a, if_pos b, if_pos c, Nat.add_sub_cancel_left, Int.toNat_natCast, e]
  generalize (strAt j).getD i 0 = v at *
  have m : (v : Int) % 65536 = (v : Int) := by omega
  rw [m, if_pos (by omega)]
theorem T574t (h : j < stN) (hi : i < (strAt j).length) (hc : (strAt j).getD i 0 < 256) : MM 574 [mR (some (strK + j)), mI (i : Int)] σ = some (some (mI (((strAt j).getD i 0 : Nat) : Int)), σ) := by
  rw [M574, x574_0, if_pos (ao_tx h), T576t h]
  show RR (lkB tb574) (B574_4, [some (mR (some (strK + j))), some (mI (i : Int))], [mI 1], σ) = _
  rw [x574_4, if_pos (ao_tx h), tb_tx, T577t h hi hc]
  show RR (lkB tb574) (B574_15, [some (mR (some (strK + j))), some (mI (i : Int))], [mI (((strAt j).getD i 0 : Nat) : Int)], σ) = _
  rw [x574_15, if_pos (by omega)]
theorem T282 {h : Int} : MM 282 [mI h] σ = some (some (mR (some (strK + (if h = 1 ∨ h = 3 then 79 else if h = 2 then 80 else if h = 6 then 81 else if h = 12 then 82 else if h = 26 then 83 else if h = 44 then 84 else if h = 131 then 85 else if h = 132 ∨ h = 133 then 86 else 87)))), σ) := by
  rw [M282, e282_0]
  by_cases c1 : h = 1
  · rw [if_pos c1, if_pos (Or.inl c1)]
  · rw [if_neg c1]
    by_cases c2 : h = 2
    · rw [if_pos c2, if_neg (by omega), if_pos c2]
    · rw [if_neg c2]
      by_cases c3 : h = 3
      · rw [if_pos c3, if_pos (Or.inr c3)]
      · rw [if_neg c3, if_neg (show ¬ (h = 1 ∨ h = 3) by omega), if_neg c2]
        by_cases c6 : h = 6
        · rw [if_pos c6, if_pos c6]
        · rw [if_neg c6, if_neg c6]
          by_cases c12 : h = 12
          · rw [if_pos c12, if_pos c12]
          · rw [if_neg c12, if_neg c12]
            by_cases c26 : h = 26
            · rw [if_pos c26, if_pos c26]
            · rw [if_neg c26, if_neg c26]
              by_cases c44 : h = 44
              · rw [if_pos c44, if_pos c44]
              · rw [if_neg c44, if_neg c44]
                by_cases c131 : h = 131
                · rw [if_pos c131, if_pos c131]
                · rw [if_neg c131, if_neg c131]
                  by_cases c132 : h = 132
                  · rw [if_pos c132, if_pos (Or.inl c132)]
                  · rw [if_neg c132]
                    by_cases c133 : h = 133
                    · rw [if_pos c133, if_pos (Or.inr c133)]
                    · rw [if_neg c133, if_neg (by omega)]
theorem st_79 : strAt 79 = [49, 109, 50, 107] := by decide +kernel
theorem st_80 : strAt 80 = [49, 109, 50, 107, 51, 118, 52, 110] := by decide +kernel
theorem st_81 : strAt 81 = [50, 116, 49, 98] := by decide +kernel
theorem st_82 : strAt 82 = [49, 99, 50, 112, 51, 110] := by decide +kernel
theorem st_83 : strAt 83 = [49, 99, 50, 110, 52, 119, 51, 115] := by decide +kernel
theorem st_84 : strAt 84 = [49, 99, 50, 110] := by decide +kernel
theorem st_85 : strAt 85 = [49, 114, 50, 105, 51, 110] := by decide +kernel
theorem st_86 : strAt 86 = [49, 104, 50, 110] := by decide +kernel
theorem st_87 : strAt 87 = [] := by decide +kernel
end CTXT
