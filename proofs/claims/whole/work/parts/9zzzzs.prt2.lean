/-! ===== print: what a program's text is ===== -/
/-- a place: sign's letter, how many bits, register, OFF -/
def plT (sg : Int) (w : B64) (r : Int) : List Int := sxT 4 ++ ([sg] ++ (deT (8 * bytN w) ++ (sxT 5 ++ (rgX true r ++ (sxT (if fO w < 0 then 6 else 7) ++ (deT (fO w).natAbs ++ [41]))))))
def sieT (full : Bool) (w : B64) : List Int := if rgt w then rgX full (fS w) else csX (fI w)
def cmJ (c : Int) : Nat := if c = 16 then 23 else if c = 32 then 24 else if c = 48 then 25 else if c = 64 then 26 else if c = 80 then 27 else if c = 96 then 28 else if c = 112 then 29 else if c = 160 then 30 else if c = 176 then 31 else if c = 192 then 32 else 33
def opJ (c o : Int) : Nat := if c = 0 then 12 else if c = 16 then 40 else if c = 32 then 41 else if c = 48 then (if o = 1 then 42 else 43) else if c = 64 then 13 else if c = 80 then 14 else if c = 96 then 44 else if c = 112 then 45 else if c = 144 then (if o = 1 then 46 else 47) else if c = 160 then 15 else if c = 176 then 2 else 48
def xsJ (x : Int) : Nat := if iAnd x 240 = 0 then 12 else if iAnd x 240 = 64 then 13 else if iAnd x 240 = 80 then 14 else if iAnd x 240 = 160 then 15 else 16
def xpJ (x : Int) : Nat := if x = 225 then 8 else if x = 241 then 9 else if iAnd x 1 = 0 then 11 else 10
def sroT (w : B64) : List Int := if fM w = 96 then plT 117 w (fD w) ++ (sxT 2 ++ rgX true (fS w)) else sxT (xpJ (fI w)) ++ (plT 117 w (fD w) ++ (sxT (xsJ (fI w)) ++ rgX true (fS w)))
def jmT (w : B64) : List Int := if fOp w = 149 then sxT 17 else if fOp w = 5 then sxT 18 ++ whT (fO w) else if fOp w = 6 then sxT 19 ++ whT (fI w) else if fOp w = 133 then sxT 22 ++ (if fS w = 1 then whT (fI w) else deT (iL (fI w)).toNat) else sxT 20 ++ (rgX (decide (fL w = 5)) (fD w) ++ (sxT (cmJ (fC w)) ++ (sieT (decide (fL w = 5)) w ++ (sxT 21 ++ whT (fO w)))))
def auT (w : B64) : List Int := rgX (decide (fL w = 7 ∨ fC w = 208)) (fD w) ++ (if fC w = 208 then sxT (if fOp w = 212 then 34 else if fOp w = 220 then 35 else 36) ++ (deT (iL (fI w)).toNat ++ ([32] ++ rgX true (fD w))) else if fC w = 128 then sxT 37 ++ rgX (decide (fL w = 7 ∨ fC w = 208)) (fD w) else if fC w = 176 ∧ ¬ fO w = 0 then sxT 38 ++ (deT (iL (fO w)).toNat ++ (sxT 39 ++ rgX (decide (fL w = 7 ∨ fC w = 208)) (fS w))) else sxT (opJ (fC w) (fO w)) ++ sieT (decide (fL w = 7 ∨ fC w = 208)) w)
/-- a word that is an instruction -/
def prS (w : B64) : List Int := if fL w = 1 then rgX true (fD w) ++ (sxT 2 ++ plT (if fM w = 128 then 115 else 117) w (fS w)) else if fL w = 2 then plT 117 w (fD w) ++ (sxT 2 ++ csX (fI w)) else if fL w = 3 then sroT w else if fL w = 5 ∨ fL w = 6 then jmT w else auT w
/-- a pair -/
def prP (w w2 : B64) : List Int := rgX true (fD w) ++ (if fS w = 1 then sxT 1 ++ deT (iL (fI w)).toNat else sxT 2 ++ (deT (lUsh w 32 ||| w2).toNat ++ sxT 3))
/-- digit k in hex -/
def hxD (w : B64) (k : Nat) : Int := if w.toNat / 16 ^ k % 16 < 10 then 48 + ((w.toNat / 16 ^ k % 16 : Nat) : Int) else 87 + ((w.toNat / 16 ^ k % 16 : Nat) : Int)
def hxL (w : B64) : Nat → List Int
  | 0 => []
  | j + 1 => hxD w j :: hxL w j
/-- a word that is none -/
def prB (w : B64) : List Int := sxT 0 ++ hxL w 16
section PRT2
variable {σ τ ρ : MS} {L M N : List Int} {i j k n r : Nat} {c x sg : Int} {w w2 : B64} {b : Bool}
theorem fDb (w : B64) : 0 ≤ fD w ∧ fD w < 2147483648 := by
  unfold fD
  omega
theorem fSb (w : B64) : 0 ≤ fS w ∧ fS w < 2147483648 := by
  unfold fS
  omega
theorem fOb (w : B64) : -2147483648 ≤ fO w ∧ fO w < 2147483648 := by
  have := fO_r w
  omega
theorem fIb (w : B64) : -2147483648 ≤ fI w ∧ fI w < 2147483648 := by
  have h1 := BitVec.le_toInt w
  have h2 := BitVec.toInt_lt (x := w)
  unfold fI
  omega
theorem b8_y (c : rgt w) : ¬ (w &&& iL 8 = BitVec.ofNat 64 0) := by
  rw [b8_w]
  exact not_not_intro c
theorem b8_n (c : ¬ rgt w) : w &&& iL 8 = BitVec.ofNat 64 0 := by
  rw [b8_w]
  exact c
theorem m8_y (c : rgt w) : ¬ iAnd (fOp w) 8 = 0 := by
  rw [m8r]
  exact not_not_intro c
theorem m8_n (c : ¬ rgt w) : iAnd (fOp w) 8 = 0 := by
  rw [m8r]
  exact c
theorem byN_v (w : B64) : bytN w = 4 ∨ bytN w = 2 ∨ bytN w = 1 ∨ bytN w = 8 := by
  unfold bytN
  split
  · exact Or.inl rfl
  · split
    · exact Or.inr (Or.inl rfl)
    · split
      · exact Or.inr (Or.inr (Or.inl rfl))
      · exact Or.inr (Or.inr (Or.inr rfl))
theorem iL_n (hn : n < 2147483648) : (iL (n : Int)).toNat = n := by
  rw [iL_t _ (by omega)]
  exact Int.toNat_natCast n
theorem T94n (h : otC σ L) (hn : n < 2147483648) (hl : (L ++ deT n).length ≤ 8192) : okc (MM 94 [mR (some 2), mL (iL (n : Int))] σ) none (etC σ L (deT n)) := by
  have t := T94 (w := iL (n : Int)) h (by rw [iL_n hn]; exact hl)
  rw [iL_n hn] at t
  exact t
theorem T392n (h : otR σ L) (hn : n < 2147483648) (hl : (L ++ deT n).length ≤ 24000) : okc (MM 392 [mR (some 80), mL (iL (n : Int))] σ) none (etR σ L (deT n)) := by
  have t := T392 (w := iL (n : Int)) h (by rw [iL_n hn]; exact hl)
  rw [iL_n hn] at t
  exact t
/-! the class -/
theorem T98 {f : Int} (h : otC σ L) (hf : f = 0 ↔ b = false) (hl : (L ++ sieT b w).length ≤ 8192) : okc (MM 98 [mR (some 2), mI f, mL w] σ) none (etC σ L (sieT b w)) := by
  unfold sieT at hl ⊢
  rw [M98, e98_0]
  by_cases c : rgt w
  · rw [if_pos c] at hl
    rw [if_pos c, if_neg (b8_y c)]
    rw [T2]
    simp only [Option.bind_some, Option.toList_some, Option.toList_none, List.cons_append, List.nil_append]
    rw [e98_16]
    refine okc_b (T97 h hf (fSb w) hl) fun τz0 z0 => ?_
    simp only [Option.bind_some, Option.toList_some, Option.toList_none, List.cons_append, List.nil_append]
    rw [e98_19]
    rw [e98_30]
    exact okc_s (z0)
  · rw [if_neg c] at hl
    rw [if_neg c, if_pos (b8_n c)]
    rw [T4]
    simp only [Option.bind_some, Option.toList_some, Option.toList_none, List.cons_append, List.nil_append]
    rw [e98_27]
    refine okc_b (T95 h (fIb w) hl) fun τz0 z0 => ?_
    simp only [Option.bind_some, Option.toList_some, Option.toList_none, List.cons_append, List.nil_append]
    rw [e98_30]
    exact okc_s (z0)
theorem T103 (h : otC σ L) (hs : -128 ≤ sg ∧ sg < 128) (hr : 0 ≤ x ∧ x < 2147483648) (hl : (L ++ plT sg w x).length ≤ 8192) : okc (MM 103 [mR (some 2), mL w, mI x, mI sg] σ) none (etC σ L (plT sg w x)) := by
  have bn := byN_v w
  have fo := fO_r w
  have eb : w32 (8 * ((bytN w : Nat) : Int)) = ((8 * bytN w : Nat) : Int) := by
    rw [w32_i (by omega) (by omega)]
    omega
  unfold plT at hl ⊢
  rw [M103, e103_0]
  by_cases c : fO w < 0
  · rw [if_pos c] at hl
    rw [if_pos c]
    have ea : w32 (-(fO w)) = (((fO w).natAbs : Nat) : Int) := by
      rw [w32_i (by omega) (by omega)]
      omega
    refine okc_b (T93 h (by decide) (app_l1 hl)) fun τz0 z0 => ?_
    simp only [Option.bind_some, Option.toList_some, Option.toList_none, List.cons_append, List.nil_append]
    have zl0 := app_len hl
    rw [e103_6]
    refine okc_b (T92 z0.1 (app_l1 zl0) hs) fun τz1 z1 => ?_
    simp only [Option.bind_some, Option.toList_some, Option.toList_none, List.cons_append, List.nil_append]
    have zl1 := app_len zl0
    rw [e103_12, T0]
    simp only [Option.bind_some, Option.toList_some, Option.toList_none, List.cons_append, List.nil_append]
    rw [e103_19, T5]
    simp only [Option.bind_some, Option.toList_some, Option.toList_none, List.cons_append, List.nil_append]
    rw [e103_22, eb]
    refine okc_b (T94n z1.1 (by omega) (app_l1 zl1)) fun τz2 z2 => ?_
    simp only [Option.bind_some, Option.toList_some, Option.toList_none, List.cons_append, List.nil_append]
    have zl2 := app_len zl1
    rw [e103_27]
    refine okc_b (T93 z2.1 (by decide) (app_l1 zl2)) fun τz3 z3 => ?_
    simp only [Option.bind_some, Option.toList_some, Option.toList_none, List.cons_append, List.nil_append]
    have zl3 := app_len zl2
    rw [e103_33]
    refine okc_b (T97 (b := true) z3.1 (by decide) hr (app_l1 zl3)) fun τz4 z4 => ?_
    simp only [Option.bind_some, Option.toList_some, Option.toList_none, List.cons_append, List.nil_append]
    have zl4 := app_len zl3
    rw [e103_39, T3]
    simp only [Option.bind_some, Option.toList_some, Option.toList_none, List.cons_append, List.nil_append]
    rw [e103_44, if_neg (show ¬ 0 ≤ fO w by omega), e103_54]
    refine okc_b (T93 z4.1 (by decide) (app_l1 zl4)) fun τz5 z5 => ?_
    simp only [Option.bind_some, Option.toList_some, Option.toList_none, List.cons_append, List.nil_append]
    have zl5 := app_len zl4
    rw [e103_57, T3]
    simp only [Option.bind_some, Option.toList_some, Option.toList_none, List.cons_append, List.nil_append]
    rw [e103_62, if_neg (show ¬ 0 ≤ fO w by omega), T3]
    simp only [Option.bind_some, Option.toList_some, Option.toList_none, List.cons_append, List.nil_append]
    rw [e103_69, ea, e103_79]
    refine okc_b (T94n z5.1 (by omega) (app_l1 zl5)) fun τz6 z6 => ?_
    simp only [Option.bind_some, Option.toList_some, Option.toList_none, List.cons_append, List.nil_append]
    have zl6 := app_len zl5
    rw [e103_82]
    refine okc_b (T92 z6.1 zl6 (by decide)) fun τz7 z7 => ?_
    simp only [Option.bind_some, Option.toList_some, Option.toList_none, List.cons_append, List.nil_append]
    rw [e103_88]
    exact okc_s (etC_t z0 (etC_t z1 (etC_t z2 (etC_t z3 (etC_t z4 (etC_t z5 (etC_t z6 (z7))))))))
  · rw [if_neg c] at hl
    rw [if_neg c]
    have ea : fO w = (((fO w).natAbs : Nat) : Int) := by
      omega
    refine okc_b (T93 h (by decide) (app_l1 hl)) fun τz0 z0 => ?_
    simp only [Option.bind_some, Option.toList_some, Option.toList_none, List.cons_append, List.nil_append]
    have zl0 := app_len hl
    rw [e103_6]
    refine okc_b (T92 z0.1 (app_l1 zl0) hs) fun τz1 z1 => ?_
    simp only [Option.bind_some, Option.toList_some, Option.toList_none, List.cons_append, List.nil_append]
    have zl1 := app_len zl0
    rw [e103_12, T0]
    simp only [Option.bind_some, Option.toList_some, Option.toList_none, List.cons_append, List.nil_append]
    rw [e103_19, T5]
    simp only [Option.bind_some, Option.toList_some, Option.toList_none, List.cons_append, List.nil_append]
    rw [e103_22, eb]
    refine okc_b (T94n z1.1 (by omega) (app_l1 zl1)) fun τz2 z2 => ?_
    simp only [Option.bind_some, Option.toList_some, Option.toList_none, List.cons_append, List.nil_append]
    have zl2 := app_len zl1
    rw [e103_27]
    refine okc_b (T93 z2.1 (by decide) (app_l1 zl2)) fun τz3 z3 => ?_
    simp only [Option.bind_some, Option.toList_some, Option.toList_none, List.cons_append, List.nil_append]
    have zl3 := app_len zl2
    rw [e103_33]
    refine okc_b (T97 (b := true) z3.1 (by decide) hr (app_l1 zl3)) fun τz4 z4 => ?_
    simp only [Option.bind_some, Option.toList_some, Option.toList_none, List.cons_append, List.nil_append]
    have zl4 := app_len zl3
    rw [e103_39, T3]
    simp only [Option.bind_some, Option.toList_some, Option.toList_none, List.cons_append, List.nil_append]
    rw [e103_44, if_pos (show 0 ≤ fO w by omega), e103_54]
    refine okc_b (T93 z4.1 (by decide) (app_l1 zl4)) fun τz5 z5 => ?_
    simp only [Option.bind_some, Option.toList_some, Option.toList_none, List.cons_append, List.nil_append]
    have zl5 := app_len zl4
    rw [e103_57, T3]
    simp only [Option.bind_some, Option.toList_some, Option.toList_none, List.cons_append, List.nil_append]
    rw [e103_62, if_pos (show 0 ≤ fO w by omega), T3]
    simp only [Option.bind_some, Option.toList_some, Option.toList_none, List.cons_append, List.nil_append]
    rw [e103_78]
    rw [show iL (fO w) = iL (((fO w).natAbs : Nat) : Int) from congrArg iL ea]
    rw [e103_79]
    refine okc_b (T94n z5.1 (by omega) (app_l1 zl5)) fun τz6 z6 => ?_
    simp only [Option.bind_some, Option.toList_some, Option.toList_none, List.cons_append, List.nil_append]
    have zl6 := app_len zl5
    rw [e103_82]
    refine okc_b (T92 z6.1 zl6 (by decide)) fun τz7 z7 => ?_
    simp only [Option.bind_some, Option.toList_some, Option.toList_none, List.cons_append, List.nil_append]
    rw [e103_88]
    exact okc_s (etC_t z0 (etC_t z1 (etC_t z2 (etC_t z3 (etC_t z4 (etC_t z5 (etC_t z6 (z7))))))))
theorem T105 : MM 105 [mI x] σ = some (some (mR (some (strK + xsJ x))), σ) := by
  unfold xsJ
  rw [M105, e105_0]
  by_cases c0 : iAnd x 240 = 0
  · rw [if_pos c0, if_pos c0]
  rw [if_neg c0, if_neg c0]
  by_cases c64 : iAnd x 240 = 64
  · rw [if_pos c64, if_pos c64]
  rw [if_neg c64, if_neg c64]
  by_cases c80 : iAnd x 240 = 80
  · rw [if_pos c80, if_pos c80]
  rw [if_neg c80, if_neg c80]
  by_cases c160 : iAnd x 240 = 160
  · rw [if_pos c160, if_pos c160]
  rw [if_neg c160, if_neg c160]
theorem T108 : MM 108 [mI (fOp w)] σ = some (some (mR (some (strK + cmJ (fC w)))), σ) := by
  unfold cmJ
  rw [M108, e108_0, mC]
  by_cases c16 : fC w = 16
  · rw [if_pos c16, if_pos c16]
  rw [if_neg c16, if_neg c16]
  by_cases c32 : fC w = 32
  · rw [if_pos c32, if_pos c32]
  rw [if_neg c32, if_neg c32]
  by_cases c48 : fC w = 48
  · rw [if_pos c48, if_pos c48]
  rw [if_neg c48, if_neg c48]
  by_cases c64 : fC w = 64
  · rw [if_pos c64, if_pos c64]
  rw [if_neg c64, if_neg c64]
  by_cases c80 : fC w = 80
  · rw [if_pos c80, if_pos c80]
  rw [if_neg c80, if_neg c80]
  by_cases c96 : fC w = 96
  · rw [if_pos c96, if_pos c96]
  rw [if_neg c96, if_neg c96]
  by_cases c112 : fC w = 112
  · rw [if_pos c112, if_pos c112]
  rw [if_neg c112, if_neg c112]
  by_cases c160 : fC w = 160
  · rw [if_pos c160, if_pos c160]
  rw [if_neg c160, if_neg c160]
  by_cases c176 : fC w = 176
  · rw [if_pos c176, if_pos c176]
  rw [if_neg c176, if_neg c176]
  by_cases c192 : fC w = 192
  · rw [if_pos c192, if_pos c192]
  rw [if_neg c192, if_neg c192]
theorem T110 : MM 110 [mI c, mI x] σ = some (some (mR (some (strK + opJ c x))), σ) := by
  unfold opJ
  rw [M110, e110_0]
  by_cases c0 : c = 0
  · rw [if_pos c0, if_pos c0]
  rw [if_neg c0, if_neg c0]
  by_cases c16 : c = 16
  · rw [if_pos c16, if_pos c16]
  rw [if_neg c16, if_neg c16]
  by_cases c32 : c = 32
  · rw [if_pos c32, if_pos c32]
  rw [if_neg c32, if_neg c32]
  by_cases c48 : c = 48
  · rw [if_pos c48, if_pos c48]
    by_cases d : x = 1
    · rw [if_neg (fun z => z d), if_pos d]
    · rw [if_pos d, if_neg d]
  rw [if_neg c48, if_neg c48]
  by_cases c64 : c = 64
  · rw [if_pos c64, if_pos c64]
  rw [if_neg c64, if_neg c64]
  by_cases c80 : c = 80
  · rw [if_pos c80, if_pos c80]
  rw [if_neg c80, if_neg c80]
  by_cases c96 : c = 96
  · rw [if_pos c96, if_pos c96]
  rw [if_neg c96, if_neg c96]
  by_cases c112 : c = 112
  · rw [if_pos c112, if_pos c112]
  rw [if_neg c112, if_neg c112]
  by_cases c144 : c = 144
  · rw [if_pos c144, if_pos c144]
    by_cases d : x = 1
    · rw [if_neg (fun z => z d), if_pos d]
    · rw [if_pos d, if_neg d]
  rw [if_neg c144, if_neg c144]
  by_cases c160 : c = 160
  · rw [if_pos c160, if_pos c160]
  rw [if_neg c160, if_neg c160]
  by_cases c176 : c = 176
  · rw [if_pos c176, if_pos c176]
  rw [if_neg c176, if_neg c176]
theorem xs_b (x : Int) : xsJ x < stN := by
  unfold xsJ
  repeat' split
  all_goals decide
theorem xp_b (x : Int) : xpJ x < stN := by
  unfold xpJ
  repeat' split
  all_goals decide
theorem cm_b (x : Int) : cmJ x < stN := by
  unfold cmJ
  repeat' split
  all_goals decide
theorem op_b (c x : Int) : opJ c x < stN := by
  unfold opJ
  repeat' split
  all_goals decide
theorem T104 (h : otC σ L) (hl : (L ++ sroT w).length ≤ 8192) : okc (MM 104 [mR (some 2), mL w] σ) none (etC σ L (sroT w)) := by
  unfold sroT at hl ⊢
  rw [M104, e104_0, T0]
  simp only [Option.bind_some, Option.toList_some, Option.toList_none, List.cons_append, List.nil_append]
  rw [e104_4, m224]
  by_cases c : fM w = 96
  · rw [if_pos c] at hl
    rw [if_pos c, if_neg (fun z => z c)]
    rw [T1]
    simp only [Option.bind_some, Option.toList_some, Option.toList_none, List.cons_append, List.nil_append]
    rw [e104_19]
    refine okc_b (T103 h (by decide) (fDb w) (app_l1 hl)) fun τz0 z0 => ?_
    simp only [Option.bind_some, Option.toList_some, Option.toList_none, List.cons_append, List.nil_append]
    have zl0 := app_len hl
    rw [e104_24]
    refine okc_b (T93 z0.1 (by decide) (app_l1 zl0)) fun τz1 z1 => ?_
    simp only [Option.bind_some, Option.toList_some, Option.toList_none, List.cons_append, List.nil_append]
    have zl1 := app_len zl0
    rw [e104_30]
    rw [e104_98, T2]
    simp only [Option.bind_some, Option.toList_some, Option.toList_none, List.cons_append, List.nil_append]
    rw [e104_104]
    refine okc_b (T97 (b := true) z1.1 (by decide) (fSb w) zl1) fun τz2 z2 => ?_
    simp only [Option.bind_some, Option.toList_some, Option.toList_none, List.cons_append, List.nil_append]
    rw [e104_107]
    exact okc_s (etC_t z0 (etC_t z1 (z2)))
  · rw [if_neg c] at hl
    rw [if_neg c, if_pos c, T4]
    simp only [Option.bind_some, Option.toList_some, Option.toList_none, List.cons_append, List.nil_append]
    have e37 : RR (lkB tb104) (B104_37, [some (mR (some 2)), some (mL w), none, none], [mI (fI w)], σ) = RR (lkB tb104) (B104_76, [some (mR (some 2)), some (mL w), none, some (mI (fI w))], [mR (some (strK + xpJ (fI w))), mR (some 2)], σ) := by
      unfold xpJ
      rw [e104_37]
      by_cases c1 : fI w = 225
      · rw [if_neg (fun z => z c1), if_pos c1]
      · rw [if_pos c1, if_neg c1]
        by_cases c2 : fI w = 241
        · rw [if_neg (fun z => z c2), if_pos c2]
        · rw [if_pos c2, if_neg c2]
          by_cases c3 : iAnd (fI w) 1 = 0
          · rw [if_pos c3, if_pos c3]
          · rw [if_neg c3, if_neg c3]
    rw [e37]
    rw [e104_76]
    refine okc_b (T93 h (xp_b _) (app_l1 hl)) fun τz0 z0 => ?_
    simp only [Option.bind_some, Option.toList_some, Option.toList_none, List.cons_append, List.nil_append]
    have zl0 := app_len hl
    rw [e104_79, T1]
    simp only [Option.bind_some, Option.toList_some, Option.toList_none, List.cons_append, List.nil_append]
    rw [e104_85]
    refine okc_b (T103 z0.1 (by decide) (fDb w) (app_l1 zl0)) fun τz1 z1 => ?_
    simp only [Option.bind_some, Option.toList_some, Option.toList_none, List.cons_append, List.nil_append]
    have zl1 := app_len zl0
    rw [e104_90, T105]
    simp only [Option.bind_some, Option.toList_some, Option.toList_none, List.cons_append, List.nil_append]
    rw [e104_95]
    refine okc_b (T93 z1.1 (xs_b _) (app_l1 zl1)) fun τz2 z2 => ?_
    simp only [Option.bind_some, Option.toList_some, Option.toList_none, List.cons_append, List.nil_append]
    have zl2 := app_len zl1
    refine okc_q (ls := [some (mR (some 2)), some (mL w), none, none]) (by repeat (first | exact lq_nil | refine lq_cons (Or.inr rfl) ?_ | refine lq_cons (Or.inl rfl) ?_)) ?_
    rw [e104_98, T2]
    simp only [Option.bind_some, Option.toList_some, Option.toList_none, List.cons_append, List.nil_append]
    rw [e104_104]
    refine okc_b (T97 (b := true) z2.1 (by decide) (fSb w) zl2) fun τz3 z3 => ?_
    simp only [Option.bind_some, Option.toList_some, Option.toList_none, List.cons_append, List.nil_append]
    rw [e104_107]
    exact okc_s (etC_t z0 (etC_t z1 (etC_t z2 (z3))))
theorem T107 (h : otC σ L) (hl : (L ++ (sxT 22 ++ (if fS w = 1 then whT (fI w) else deT (iL (fI w)).toNat))).length ≤ 8192) : okc (MM 107 [mR (some 2), mL w] σ) none (etC σ L (sxT 22 ++ (if fS w = 1 then whT (fI w) else deT (iL (fI w)).toNat))) := by
  rw [M107, e107_0]
  by_cases c : fS w = 1
  · rw [if_pos c] at hl
    rw [if_pos c]
    refine okc_b (T93 h (by decide) (app_l1 hl)) fun τz0 z0 => ?_
    simp only [Option.bind_some, Option.toList_some, Option.toList_none, List.cons_append, List.nil_append]
    have zl0 := app_len hl
    rw [e107_6, T2]
    simp only [Option.bind_some, Option.toList_some, Option.toList_none, List.cons_append, List.nil_append]
    rw [e107_10, if_neg (fun z => z c), T4]
    simp only [Option.bind_some, Option.toList_some, Option.toList_none, List.cons_append, List.nil_append]
    rw [e107_19]
    refine okc_b (T96 z0.1 (fIb w) zl0) fun τz1 z1 => ?_
    simp only [Option.bind_some, Option.toList_some, Option.toList_none, List.cons_append, List.nil_append]
    rw [e107_22]
    rw [e107_34]
    exact okc_s (etC_t z0 (z1))
  · rw [if_neg c] at hl
    rw [if_neg c]
    refine okc_b (T93 h (by decide) (app_l1 hl)) fun τz0 z0 => ?_
    simp only [Option.bind_some, Option.toList_some, Option.toList_none, List.cons_append, List.nil_append]
    have zl0 := app_len hl
    rw [e107_6, T2]
    simp only [Option.bind_some, Option.toList_some, Option.toList_none, List.cons_append, List.nil_append]
    rw [e107_10, if_pos c, T4]
    simp only [Option.bind_some, Option.toList_some, Option.toList_none, List.cons_append, List.nil_append]
    rw [e107_30]
    refine okc_b (T94 z0.1 zl0) fun τz1 z1 => ?_
    simp only [Option.bind_some, Option.toList_some, Option.toList_none, List.cons_append, List.nil_append]
    rw [e107_34]
    exact okc_s (etC_t z0 (z1))
theorem T106 (h : otC σ L) (hl : (L ++ jmT w).length ≤ 8192) : okc (MM 106 [mR (some 2), mL w] σ) none (etC σ L (jmT w)) := by
  unfold jmT at hl ⊢
  rw [M106, e106_0, T0]
  simp only [Option.bind_some, Option.toList_some, Option.toList_none, List.cons_append, List.nil_append]
  rw [e106_4]
  by_cases c1 : fOp w = 149
  · rw [if_pos c1] at hl
    rw [if_pos c1, if_neg (fun z => z c1)]
    refine okc_b (T93 h (by decide) hl) fun τz0 z0 => ?_
    simp only [Option.bind_some, Option.toList_some, Option.toList_none, List.cons_append, List.nil_append]
    rw [e106_18]
    rw [e106_141]
    exact okc_s (z0)
  rw [if_neg c1] at hl
  rw [if_neg c1, if_pos c1]
  by_cases c2 : fOp w = 5
  · rw [if_pos c2] at hl
    rw [if_pos c2, if_neg (fun z => z c2)]
    refine okc_b (T93 h (by decide) (app_l1 hl)) fun τz0 z0 => ?_
    simp only [Option.bind_some, Option.toList_some, Option.toList_none, List.cons_append, List.nil_append]
    have zl0 := app_len hl
    rw [e106_32, T3]
    simp only [Option.bind_some, Option.toList_some, Option.toList_none, List.cons_append, List.nil_append]
    rw [e106_37]
    refine okc_b (T96 z0.1 (fOb w) zl0) fun τz1 z1 => ?_
    simp only [Option.bind_some, Option.toList_some, Option.toList_none, List.cons_append, List.nil_append]
    rw [e106_40]
    rw [e106_141]
    exact okc_s (etC_t z0 (z1))
  rw [if_neg c2] at hl
  rw [if_neg c2, if_pos c2]
  by_cases c3 : fOp w = 6
  · rw [if_pos c3] at hl
    rw [if_pos c3, if_neg (fun z => z c3)]
    refine okc_b (T93 h (by decide) (app_l1 hl)) fun τz0 z0 => ?_
    simp only [Option.bind_some, Option.toList_some, Option.toList_none, List.cons_append, List.nil_append]
    have zl0 := app_len hl
    rw [e106_55, T4]
    simp only [Option.bind_some, Option.toList_some, Option.toList_none, List.cons_append, List.nil_append]
    rw [e106_60]
    refine okc_b (T96 z0.1 (fIb w) zl0) fun τz1 z1 => ?_
    simp only [Option.bind_some, Option.toList_some, Option.toList_none, List.cons_append, List.nil_append]
    rw [e106_63]
    rw [e106_141]
    exact okc_s (etC_t z0 (z1))
  rw [if_neg c3] at hl
  rw [if_neg c3, if_pos c3]
  by_cases c4 : fOp w = 133
  · rw [if_pos c4] at hl
    rw [if_pos c4, if_neg (fun z => z c4)]
    refine okc_b (T107 h hl) fun τz0 z0 => ?_
    simp only [Option.bind_some, Option.toList_some, Option.toList_none, List.cons_append, List.nil_append]
    rw [e106_78]
    rw [e106_141]
    exact okc_s (z0)
  rw [if_neg c4] at hl
  rw [if_neg c4, if_pos c4, m7]
  have e94 : ∀ f : Int, f = (if fL w = 5 then 1 else 0) → okc (RR (lkB tb106) (B106_94, [some (mR (some 2)), some (mL w), none, some (mI (fOp w)), none], [mI f], σ)) none (etC σ L (sxT 20 ++ (rgX (decide (fL w = 5)) (fD w) ++ (sxT (cmJ (fC w)) ++ (sieT (decide (fL w = 5)) w ++ (sxT 21 ++ whT (fO w))))))) := fun f ef => by
    have hf : f = 0 ↔ decide (fL w = 5) = false := by
      rw [ef]
      by_cases q : fL w = 5
      · rw [if_pos q, decide_eq_true q]
        decide
      · rw [if_neg q, decide_eq_false q]
        decide
    rw [e106_94]
    refine okc_b (T93 h (by decide) (app_l1 hl)) fun τz0 z0 => ?_
    simp only [Option.bind_some, Option.toList_some, Option.toList_none, List.cons_append, List.nil_append]
    have zl0 := app_len hl
    rw [e106_102, T1]
    simp only [Option.bind_some, Option.toList_some, Option.toList_none, List.cons_append, List.nil_append]
    rw [e106_109]
    refine okc_b (T97 z0.1 hf (fDb w) (app_l1 zl0)) fun τz1 z1 => ?_
    simp only [Option.bind_some, Option.toList_some, Option.toList_none, List.cons_append, List.nil_append]
    have zl1 := app_len zl0
    rw [e106_112, T108]
    simp only [Option.bind_some, Option.toList_some, Option.toList_none, List.cons_append, List.nil_append]
    rw [e106_117]
    refine okc_b (T93 z1.1 (cm_b _) (app_l1 zl1)) fun τz2 z2 => ?_
    simp only [Option.bind_some, Option.toList_some, Option.toList_none, List.cons_append, List.nil_append]
    have zl2 := app_len zl1
    rw [e106_120]
    refine okc_b (T98 z2.1 hf (app_l1 zl2)) fun τz3 z3 => ?_
    simp only [Option.bind_some, Option.toList_some, Option.toList_none, List.cons_append, List.nil_append]
    have zl3 := app_len zl2
    rw [e106_127]
    refine okc_b (T93 z3.1 (by decide) (app_l1 zl3)) fun τz4 z4 => ?_
    simp only [Option.bind_some, Option.toList_some, Option.toList_none, List.cons_append, List.nil_append]
    have zl4 := app_len zl3
    rw [e106_133, T3]
    simp only [Option.bind_some, Option.toList_some, Option.toList_none, List.cons_append, List.nil_append]
    rw [e106_138]
    refine okc_b (T96 z4.1 (fOb w) zl4) fun τz5 z5 => ?_
    simp only [Option.bind_some, Option.toList_some, Option.toList_none, List.cons_append, List.nil_append]
    refine okc_q (ls := [some (mR (some 2)), some (mL w), none, some (mI (fOp w)), none]) (by repeat (first | exact lq_nil | refine lq_cons (Or.inr rfl) ?_ | refine lq_cons (Or.inl rfl) ?_)) ?_
    rw [e106_141]
    exact okc_s (etC_t z0 (etC_t z1 (etC_t z2 (etC_t z3 (etC_t z4 (z5))))))
  by_cases q : fL w = 5
  · rw [if_neg (fun z => z q)]
    exact e94 1 (by rw [if_pos q])
  · rw [if_pos q]
    exact e94 0 (by rw [if_neg q])
theorem T109 (h : otC σ L) (hl : (L ++ auT w).length ≤ 8192) : okc (MM 109 [mR (some 2), mL w] σ) none (etC σ L (auT w)) := by
  rw [M109, e109_0, T0]
  simp only [Option.bind_some, Option.toList_some, Option.toList_none, List.cons_append, List.nil_append]
  rw [e109_4, m7, mC]
  have go : ∀ f : Int, f = (if fL w = 7 ∨ fC w = 208 then 1 else 0) → okc (RR (lkB tb109) (B109_34, [some (mR (some 2)), some (mL w), none, some (mI (fOp w)), some (mI (fC w)), none], [mI f], σ)) none (etC σ L (auT w)) := fun f ef => by
    have hf : f = 0 ↔ decide (fL w = 7 ∨ fC w = 208) = false := by
      rw [ef]
      by_cases q : fL w = 7 ∨ fC w = 208
      · rw [if_pos q, decide_eq_true q]
        decide
      · rw [if_neg q, decide_eq_false q]
        decide
    unfold auT at hl ⊢
    rw [e109_34, T1]
    simp only [Option.bind_some, Option.toList_some, Option.toList_none, List.cons_append, List.nil_append]
    rw [e109_43]
    refine okc_b (T97 h hf (fDb w) (app_l1 hl)) fun τ y => ?_
    simp only [Option.bind_some, Option.toList_some, Option.toList_none, List.cons_append, List.nil_append]
    have hl' := app_len hl
    have h' := y.1
    rw [e109_46]
    by_cases c1 : fC w = 208
    · rw [if_pos c1] at hl' ⊢
      rw [if_neg (fun z => z c1)]
      have e46 : (if ¬ fOp w = 212 then (if ¬ fOp w = 220 then RR (lkB tb109) (B109_81, [some (mR (some 2)), some (mL w), none, some (mI (fOp w)), some (mI (fC w)), some (mI f)], [mR (some (strK + 36)), mR (some 2)], τ) else RR (lkB tb109) (B109_81, [some (mR (some 2)), some (mL w), none, some (mI (fOp w)), some (mI (fC w)), some (mI f)], [mR (some (strK + 35)), mR (some 2)], τ)) else RR (lkB tb109) (B109_81, [some (mR (some 2)), some (mL w), none, some (mI (fOp w)), some (mI (fC w)), some (mI f)], [mR (some (strK + 34)), mR (some 2)], τ)) = RR (lkB tb109) (B109_81, [some (mR (some 2)), some (mL w), none, some (mI (fOp w)), some (mI (fC w)), some (mI f)], [mR (some (strK + (if fOp w = 212 then 34 else if fOp w = 220 then 35 else 36))), mR (some 2)], τ) := by
        by_cases a1 : fOp w = 212
        · rw [if_neg (fun z => z a1), if_pos a1]
        · rw [if_pos a1, if_neg a1]
          by_cases a2 : fOp w = 220
          · rw [if_neg (fun z => z a2), if_pos a2]
          · rw [if_pos a2, if_neg a2]
      have b3 : (if fOp w = 212 then 34 else if fOp w = 220 then 35 else 36) < stN := by
        repeat' split
        all_goals decide
      rw [e46]
      rw [e109_81]
      refine okc_b (T93 h' b3 (app_l1 hl')) fun τz0 z0 => ?_
      simp only [Option.bind_some, Option.toList_some, Option.toList_none, List.cons_append, List.nil_append]
      have zl0 := app_len hl'
      rw [e109_84, T4]
      simp only [Option.bind_some, Option.toList_some, Option.toList_none, List.cons_append, List.nil_append]
      rw [e109_89]
      refine okc_b (T94 z0.1 (app_l1 zl0)) fun τz1 z1 => ?_
      simp only [Option.bind_some, Option.toList_some, Option.toList_none, List.cons_append, List.nil_append]
      have zl1 := app_len zl0
      rw [e109_93]
      refine okc_b (T92 z1.1 (app_l1 zl1) (by decide)) fun τz2 z2 => ?_
      simp only [Option.bind_some, Option.toList_some, Option.toList_none, List.cons_append, List.nil_append]
      have zl2 := app_len zl1
      rw [e109_99, T1]
      simp only [Option.bind_some, Option.toList_some, Option.toList_none, List.cons_append, List.nil_append]
      rw [e109_105]
      refine okc_b (T97 (b := true) z2.1 (by decide) (fDb w) zl2) fun τz3 z3 => ?_
      simp only [Option.bind_some, Option.toList_some, Option.toList_none, List.cons_append, List.nil_append]
      rw [e109_108]
      rw [e109_207]
      exact okc_s (etC_t y (etC_t z0 (etC_t z1 (etC_t z2 (z3)))))
    rw [if_neg c1] at hl' ⊢
    rw [if_pos c1]
    by_cases c2 : fC w = 128
    · rw [if_pos c2] at hl' ⊢
      rw [if_neg (fun z => z c2)]
      refine okc_b (T93 h' (by decide) (app_l1 hl')) fun τz0 z0 => ?_
      simp only [Option.bind_some, Option.toList_some, Option.toList_none, List.cons_append, List.nil_append]
      have zl0 := app_len hl'
      rw [e109_125, T1]
      simp only [Option.bind_some, Option.toList_some, Option.toList_none, List.cons_append, List.nil_append]
      rw [e109_132]
      refine okc_b (T97 z0.1 hf (fDb w) zl0) fun τz1 z1 => ?_
      simp only [Option.bind_some, Option.toList_some, Option.toList_none, List.cons_append, List.nil_append]
      rw [e109_135]
      rw [e109_207]
      exact okc_s (etC_t y (etC_t z0 (z1)))
    rw [if_neg c2] at hl' ⊢
    rw [if_pos c2]
    have e187 : (L ++ rgX (decide (fL w = 7 ∨ fC w = 208)) (fD w) ++ (sxT (opJ (fC w) (fO w)) ++ sieT (decide (fL w = 7 ∨ fC w = 208)) w)).length ≤ 8192 → okc (RR (lkB tb109) (B109_187, [some (mR (some 2)), some (mL w), none, some (mI (fOp w)), some (mI (fC w)), some (mI f)], [], τ)) none (etC σ L (rgX (decide (fL w = 7 ∨ fC w = 208)) (fD w) ++ (sxT (opJ (fC w) (fO w)) ++ sieT (decide (fL w = 7 ∨ fC w = 208)) w))) := fun hl' => by
      rw [e109_187, T3]
      simp only [Option.bind_some, Option.toList_some, Option.toList_none, List.cons_append, List.nil_append]
      rw [e109_194, T110]
      simp only [Option.bind_some, Option.toList_some, Option.toList_none, List.cons_append, List.nil_append]
      rw [e109_197]
      refine okc_b (T93 h' (op_b _ _) (app_l1 hl')) fun τz0 z0 => ?_
      simp only [Option.bind_some, Option.toList_some, Option.toList_none, List.cons_append, List.nil_append]
      have zl0 := app_len hl'
      rw [e109_200]
      refine okc_b (T98 z0.1 hf zl0) fun τz1 z1 => ?_
      simp only [Option.bind_some, Option.toList_some, Option.toList_none, List.cons_append, List.nil_append]
      rw [e109_207]
      exact okc_s (etC_t y (etC_t z0 (z1)))
    by_cases c3 : fC w = 176
    · rw [if_neg (fun z => z c3), T3]
      simp only [Option.bind_some, Option.toList_some, Option.toList_none, List.cons_append, List.nil_append]
      rw [e109_150]
      by_cases c4 : fO w = 0
      · rw [if_neg (show ¬ (fC w = 176 ∧ ¬ fO w = 0) from fun z => z.2 c4)] at hl' ⊢
        rw [if_pos c4]
        exact e187 hl'
      · rw [if_pos (show fC w = 176 ∧ ¬ fO w = 0 from ⟨c3, c4⟩)] at hl' ⊢
        rw [if_neg c4]
        refine okc_b (T93 h' (by decide) (app_l1 hl')) fun τz0 z0 => ?_
        simp only [Option.bind_some, Option.toList_some, Option.toList_none, List.cons_append, List.nil_append]
        have zl0 := app_len hl'
        rw [e109_159, T3]
        simp only [Option.bind_some, Option.toList_some, Option.toList_none, List.cons_append, List.nil_append]
        rw [e109_164]
        refine okc_b (T94 z0.1 (app_l1 zl0)) fun τz1 z1 => ?_
        simp only [Option.bind_some, Option.toList_some, Option.toList_none, List.cons_append, List.nil_append]
        have zl1 := app_len zl0
        rw [e109_168]
        refine okc_b (T93 z1.1 (by decide) (app_l1 zl1)) fun τz2 z2 => ?_
        simp only [Option.bind_some, Option.toList_some, Option.toList_none, List.cons_append, List.nil_append]
        have zl2 := app_len zl1
        rw [e109_174, T2]
        simp only [Option.bind_some, Option.toList_some, Option.toList_none, List.cons_append, List.nil_append]
        rw [e109_181]
        refine okc_b (T97 z2.1 hf (fSb w) zl2) fun τz3 z3 => ?_
        simp only [Option.bind_some, Option.toList_some, Option.toList_none, List.cons_append, List.nil_append]
        rw [e109_184]
        rw [e109_207]
        exact okc_s (etC_t y (etC_t z0 (etC_t z1 (etC_t z2 (z3)))))
    · rw [if_neg (show ¬ (fC w = 176 ∧ ¬ fO w = 0) from fun z => c3 z.1)] at hl' ⊢
      rw [if_pos c3]
      exact e187 hl'
  by_cases q1 : fL w = 7
  · rw [if_pos q1, e109_29]
    exact go 1 (by rw [if_pos (Or.inl q1)])
  · rw [if_neg q1]
    by_cases q2 : fC w = 208
    · rw [if_neg (fun z => z q2), e109_29]
      exact go 1 (by rw [if_pos (Or.inr q2)])
    · rw [if_pos q2]
      exact go 0 (by rw [if_neg (fun z => z.elim q1 q2)])
theorem T102 (h : otC σ L) (hl : (L ++ prS w).length ≤ 8192) : okc (MM 102 [mR (some 2), mL w] σ) none (etC σ L (prS w)) := by
  unfold prS at hl ⊢
  rw [M102, e102_0, T0]
  simp only [Option.bind_some, Option.toList_some, Option.toList_none, List.cons_append, List.nil_append]
  rw [e102_4, m7]
  by_cases c1 : fL w = 1
  · rw [if_pos c1] at hl ⊢
    rw [if_pos c1]
    have e86 : ∀ (s : Int), s = (if fM w = 128 then 115 else 117) → ∀ τ' , RR (lkB tb102) (B102_69, [some (mR (some 2)), some (mL w), none], [mI (fOp w), mI (fS w), mL w, mR (some 2)], τ') = RR (lkB tb102) (B102_86, [some (mR (some 2)), some (mL w), none], [mI s, mI (fS w), mL w, mR (some 2)], τ') := fun s es τ' => by
      rw [e102_69, m224, es]
      by_cases q : fM w = 128
      · rw [if_neg (fun z => z q), if_pos q]
      · rw [if_pos q, if_neg q]
    have bs : -128 ≤ (if fM w = 128 then (115 : Int) else 117) ∧ (if fM w = 128 then (115 : Int) else 117) < 128 := by
      split <;> decide
    rw [T1]
    simp only [Option.bind_some, Option.toList_some, Option.toList_none, List.cons_append, List.nil_append]
    rw [e102_50]
    refine okc_b (T97 (b := true) h (by decide) (fDb w) (app_l1 hl)) fun τz0 z0 => ?_
    simp only [Option.bind_some, Option.toList_some, Option.toList_none, List.cons_append, List.nil_append]
    have zl0 := app_len hl
    rw [e102_53]
    refine okc_b (T93 z0.1 (by decide) (app_l1 zl0)) fun τz1 z1 => ?_
    simp only [Option.bind_some, Option.toList_some, Option.toList_none, List.cons_append, List.nil_append]
    have zl1 := app_len zl0
    rw [e102_59, T2]
    simp only [Option.bind_some, Option.toList_some, Option.toList_none, List.cons_append, List.nil_append]
    rw [e102_65, T0]
    simp only [Option.bind_some, Option.toList_some, Option.toList_none, List.cons_append, List.nil_append]
    rw [e86 _ rfl, e102_86]
    refine okc_b (T103 z1.1 bs (fSb w) zl1) fun τz2 z2 => ?_
    simp only [Option.bind_some, Option.toList_some, Option.toList_none, List.cons_append, List.nil_append]
    rw [e102_89]
    rw [e102_141]
    exact okc_s (etC_t z0 (etC_t z1 (z2)))
  rw [if_neg c1] at hl ⊢
  rw [if_neg c1]
  by_cases c2 : fL w = 2
  · rw [if_pos c2] at hl ⊢
    rw [if_pos c2]
    rw [T1]
    simp only [Option.bind_some, Option.toList_some, Option.toList_none, List.cons_append, List.nil_append]
    rw [e102_98]
    refine okc_b (T103 h (by decide) (fDb w) (app_l1 hl)) fun τz0 z0 => ?_
    simp only [Option.bind_some, Option.toList_some, Option.toList_none, List.cons_append, List.nil_append]
    have zl0 := app_len hl
    rw [e102_103]
    refine okc_b (T93 z0.1 (by decide) (app_l1 zl0)) fun τz1 z1 => ?_
    simp only [Option.bind_some, Option.toList_some, Option.toList_none, List.cons_append, List.nil_append]
    have zl1 := app_len zl0
    rw [e102_109, T4]
    simp only [Option.bind_some, Option.toList_some, Option.toList_none, List.cons_append, List.nil_append]
    rw [e102_114]
    refine okc_b (T95 z1.1 (fIb w) zl1) fun τz2 z2 => ?_
    simp only [Option.bind_some, Option.toList_some, Option.toList_none, List.cons_append, List.nil_append]
    rw [e102_117]
    rw [e102_141]
    exact okc_s (etC_t z0 (etC_t z1 (z2)))
  rw [if_neg c2] at hl ⊢
  rw [if_neg c2]
  by_cases c3 : fL w = 3
  · rw [if_pos c3] at hl ⊢
    rw [if_pos c3]
    refine okc_b (T104 h hl) fun τz0 z0 => ?_
    simp only [Option.bind_some, Option.toList_some, Option.toList_none, List.cons_append, List.nil_append]
    rw [e102_125]
    rw [e102_141]
    exact okc_s (z0)
  rw [if_neg c3] at hl ⊢
  rw [if_neg c3]
  by_cases c4 : fL w = 4
  · rw [if_neg (show ¬ (fL w = 5 ∨ fL w = 6) by omega)] at hl ⊢
    rw [if_pos c4]
    refine okc_b (T109 h hl) fun τz0 z0 => ?_
    simp only [Option.bind_some, Option.toList_some, Option.toList_none, List.cons_append, List.nil_append]
    rw [e102_141]
    exact okc_s (z0)
  rw [if_neg c4]
  by_cases c5 : fL w = 5
  · rw [if_pos (Or.inl c5)] at hl ⊢
    rw [if_pos c5]
    refine okc_b (T106 h hl) fun τz0 z0 => ?_
    simp only [Option.bind_some, Option.toList_some, Option.toList_none, List.cons_append, List.nil_append]
    rw [e102_133]
    rw [e102_141]
    exact okc_s (z0)
  rw [if_neg c5]
  by_cases c6 : fL w = 6
  · rw [if_pos (Or.inr c6)] at hl ⊢
    rw [if_pos c6]
    refine okc_b (T106 h hl) fun τz0 z0 => ?_
    simp only [Option.bind_some, Option.toList_some, Option.toList_none, List.cons_append, List.nil_append]
    rw [e102_133]
    rw [e102_141]
    exact okc_s (z0)
  rw [if_neg (show ¬ (fL w = 5 ∨ fL w = 6) by omega)] at hl ⊢
  rw [if_neg c6]
  refine okc_b (T109 h hl) fun τz0 z0 => ?_
  simp only [Option.bind_some, Option.toList_some, Option.toList_none, List.cons_append, List.nil_append]
  rw [e102_141]
  exact okc_s (z0)
theorem T101 (h : otC σ L) (hl : (L ++ prP w w2).length ≤ 8192) : okc (MM 101 [mR (some 2), mL w, mL w2] σ) none (etC σ L (prP w w2)) := by
  unfold prP at hl ⊢
  rw [M101, e101_0]
  by_cases c : fS w = 1
  · rw [if_pos c] at hl ⊢
    rw [T1]
    simp only [Option.bind_some, Option.toList_some, Option.toList_none, List.cons_append, List.nil_append]
    rw [e101_6]
    refine okc_b (T97 (b := true) h (by decide) (fDb w) (app_l1 hl)) fun τz0 z0 => ?_
    simp only [Option.bind_some, Option.toList_some, Option.toList_none, List.cons_append, List.nil_append]
    have zl0 := app_len hl
    rw [e101_9, T2]
    simp only [Option.bind_some, Option.toList_some, Option.toList_none, List.cons_append, List.nil_append]
    rw [e101_13, if_neg (fun z => z c)]
    refine okc_b (T93 z0.1 (by decide) (app_l1 zl0)) fun τz1 z1 => ?_
    simp only [Option.bind_some, Option.toList_some, Option.toList_none, List.cons_append, List.nil_append]
    have zl1 := app_len zl0
    rw [e101_23, T4]
    simp only [Option.bind_some, Option.toList_some, Option.toList_none, List.cons_append, List.nil_append]
    rw [e101_28]
    refine okc_b (T94 z1.1 zl1) fun τz2 z2 => ?_
    simp only [Option.bind_some, Option.toList_some, Option.toList_none, List.cons_append, List.nil_append]
    rw [e101_32]
    rw [e101_57]
    exact okc_s (etC_t z0 (etC_t z1 (z2)))
  · rw [if_neg c] at hl ⊢
    rw [T1]
    simp only [Option.bind_some, Option.toList_some, Option.toList_none, List.cons_append, List.nil_append]
    rw [e101_6]
    refine okc_b (T97 (b := true) h (by decide) (fDb w) (app_l1 hl)) fun τz0 z0 => ?_
    simp only [Option.bind_some, Option.toList_some, Option.toList_none, List.cons_append, List.nil_append]
    have zl0 := app_len hl
    rw [e101_9, T2]
    simp only [Option.bind_some, Option.toList_some, Option.toList_none, List.cons_append, List.nil_append]
    rw [e101_13, if_pos c]
    refine okc_b (T93 z0.1 (by decide) (app_l1 zl0)) fun τz1 z1 => ?_
    simp only [Option.bind_some, Option.toList_some, Option.toList_none, List.cons_append, List.nil_append]
    have zl1 := app_len zl0
    rw [e101_41]
    refine okc_b (T94 z1.1 (app_l1 zl1)) fun τz2 z2 => ?_
    simp only [Option.bind_some, Option.toList_some, Option.toList_none, List.cons_append, List.nil_append]
    have zl2 := app_len zl1
    rw [e101_51]
    refine okc_b (T93 z2.1 (by decide) zl2) fun τz3 z3 => ?_
    simp only [Option.bind_some, Option.toList_some, Option.toList_none, List.cons_append, List.nil_append]
    rw [e101_57]
    exact okc_s (etC_t z0 (etC_t z1 (etC_t z2 (z3))))
end PRT2
