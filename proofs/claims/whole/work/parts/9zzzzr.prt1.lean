/-! ===== print: numbers, registers ===== -/
section PRT1
variable {σ τ ρ : MS} {L M N : List Int} {i j k n r : Nat} {c x : Int} {w : B64}
/-- the digits of a number -/
theorem L94a : ∀ (f n : Nat) (x : B64) (σ : MS) (x1 : B64) (r : Rs), n + f = 20 → x.toNat < 10 ^ f → 0 < f → RR (lkB tb94) (B94_54, [some (mR (some 2)), some (mL x1), none, some (mL (BitVec.ofNat 64 0)), none, some (mI ((n + (dgL f x.toNat).length : Nat) : Int)), some (mL (BitVec.ofNat 64 0)), none], [], wzS σ 4 n (dgL f x.toNat)) = some r → RR (lkB tb94) (B94_5, [some (mR (some 2)), some (mL x1), none, some (mL x), none, some (mI (n : Int)), none, none], [], σ) = some r := by
  intro f
  induction f with
  | zero => intro n x σ x1 r _ _ z; omega
  | succ f ih =>
    intro n x σ x1 r hn hx _ h
    have e1 : w32 ((n : Int) + 1) = ((n + 1 : Nat) : Int) := by
      rw [w32_i (by omega) (by omega)]
      omega
    have ed : dgL (f + 1) x.toNat = (48 + ((x.toNat % 10 : Nat) : Int)) :: (if x.toNat / 10 = 0 then [] else dgL f (x.toNat / 10)) := rfl
    rw [ed] at h
    rw [e94_5, if_pos (show ¬ iL 5 = 0 by decide), if_pos (by rw [g_4]; omega), d10_c, dig_c, e1, Int.toNat_natCast]
    simp only [z10]
    by_cases z : x.toNat / 10 = 0
    · rw [if_pos z] at h
      rw [if_pos z, z]
      exact h
    · rw [if_neg z] at h
      have f0 : 0 < f := by
        rcases Nat.eq_zero_or_pos f with y | y
        · rw [y] at hx
          omega
        · exact y
      have hx2 : (BitVec.ofNat 64 (x.toNat / 10)).toNat < 10 ^ f := by
        rw [t10]
        rw [Nat.pow_succ] at hx
        omega
      rw [if_neg z, if_pos (show ((n + 1 : Nat) : Int) < 20 by omega)]
      refine RR_q (ih (n + 1) (BitVec.ofNat 64 (x.toNat / 10)) _ x1 r (by omega) hx2 f0 ?_) (by repeat (first | exact lq_nil | refine lq_cons (Or.inr rfl) ?_ | refine lq_cons (Or.inl rfl) ?_))
      rw [t10]
      rw [List.length_cons, show n + ((dgL f (x.toNat / 10)).length + 1) = n + 1 + (dgL f (x.toNat / 10)).length by omega] at h
      exact h
theorem L392a : ∀ (f n : Nat) (x : B64) (σ : MS) (x1 : B64) (r : Rs), n + f = 20 → x.toNat < 10 ^ f → 0 < f → RR (lkB tb392) (B392_54, [some (mR (some 80)), some (mL x1), none, some (mI ((n + (dgL f x.toNat).length : Nat) : Int)), some (mL (BitVec.ofNat 64 0)), none, some (mI (((n + (dgL f x.toNat).length : Nat) : Int) - 1)), none], [], wzS σ 94 n (dgL f x.toNat)) = some r → RR (lkB tb392) (B392_5, [some (mR (some 80)), some (mL x1), none, some (mI (n : Int)), some (mL x), none, none, none], [], σ) = some r := by
  intro f
  induction f with
  | zero => intro n x σ x1 r _ _ z; omega
  | succ f ih =>
    intro n x σ x1 r hn hx _ h
    have e1 : w32 ((n : Int) + 1) = ((n + 1 : Nat) : Int) := by
      rw [w32_i (by omega) (by omega)]
      omega
    have e2 : w32 (((n + 1 : Nat) : Int) - 1) = ((n + 1 : Nat) : Int) - 1 := w32_i (by omega) (by omega)
    have ed : dgL (f + 1) x.toNat = (48 + ((x.toNat % 10 : Nat) : Int)) :: (if x.toNat / 10 = 0 then [] else dgL f (x.toNat / 10)) := rfl
    rw [ed] at h
    rw [e392_5, T423, d10_r]
    simp only [Option.bind_some, Option.toList_some, Option.toList_none, List.cons_append, List.nil_append]
    rw [e392_13, if_pos (by rw [g_94]; omega), dig_r, e1, e2, Int.toNat_natCast]
    simp only [z10]
    by_cases z : x.toNat / 10 = 0
    · rw [if_pos z] at h
      rw [if_neg (fun y => y z), z]
      exact h
    · rw [if_neg z] at h
      have f0 : 0 < f := by
        rcases Nat.eq_zero_or_pos f with y | y
        · rw [y] at hx
          omega
        · exact y
      have hx2 : (BitVec.ofNat 64 (x.toNat / 10)).toNat < 10 ^ f := by
        rw [t10]
        rw [Nat.pow_succ] at hx
        omega
      rw [if_pos z]
      refine RR_q (ih (n + 1) (BitVec.ofNat 64 (x.toNat / 10)) _ x1 r (by omega) hx2 f0 ?_) (by repeat (first | exact lq_nil | refine lq_cons (Or.inr rfl) ?_ | refine lq_cons (Or.inl rfl) ?_))
      rw [t10]
      rw [List.length_cons, show n + ((dgL f (x.toNat / 10)).length + 1) = n + 1 + (dgL f (x.toNat / 10)).length by omega] at h
      exact h
theorem L94b {D : List Int} (hD : ∀ z ∈ D, 48 ≤ z ∧ z ≤ 57) (hl20 : D.length ≤ 20) {x1 : B64} : ∀ (j : Nat) (σ : MS) (L : List Int), j ≤ D.length → (∀ i, i < D.length → gI σ 4 i = D.getD i 0) → otC σ L → (L ++ (D.take j).reverse).length ≤ 8192 → okc (RR (lkB tb94) (B94_60, [some (mR (some 2)), some (mL x1), none, some (mL (BitVec.ofNat 64 0)), none, some (mI (n : Int)), some (mI ((j : Int) - 1)), none], [], σ)) none (etC σ L (D.take j).reverse) := by
  intro j
  induction j with
  | zero =>
    intro σ L _ _ h _
    rw [e94_60, if_pos (by omega)]
    exact okc_s (etC_0 h)
  | succ j ih =>
    intro σ L hj hd h hl
    have hj' : j < D.length := by omega
    rw [rev_take hj'] at hl
    have ej : ((j + 1 : Nat) : Int) - 1 = (j : Int) := by omega
    have b := hD _ (gtD_m hj')
    rw [ej, e94_60, if_neg (by omega), if_pos (by rw [g_4]; omega), Int.toNat_natCast, hd j hj']
    refine okc_b (T92d h (app_l1 (M := [D.getD j 0]) hl) (by omega)) fun τ z => ?_
    simp only [Option.bind_some, Option.toList_some, Option.toList_none, List.cons_append, List.nil_append]
    have e1 : w32 ((j : Int) + (-1)) = (j : Int) - 1 := by
      rw [w32_i (by omega) (by omega)]
      omega
    rw [e94_76, e1]
    refine okc_m (ih τ (L ++ [D.getD j 0]) (by omega) (fun i hi => (z.2 i).trans (hd i hi)) z.1.1 (app_len (M := [D.getD j 0]) hl)) fun υ y => ?_
    rw [rev_take hj']
    exact etC_t (N := (D.take j).reverse) z.1 y
/-- a number -/
theorem T94 (h : otC σ L) (hl : (L ++ deT w.toNat).length ≤ 8192) : okc (MM 94 [mR (some 2), mL w] σ) none (etC σ L (deT w.toNat)) := by
  have h1 : otC (wzS σ 4 0 (dgL 20 w.toNat)) L := ⟨by rw [wzS_g, if_neg (by omega)]; exact h.1, fun i hi => by rw [wzS_g, if_neg (by omega)]; exact h.2 i hi⟩
  have h2 : qC σ (wzS σ 4 0 (dgL 20 w.toNat)) := ⟨fun k s z => by rw [wzS_g, if_neg (by omega)], wzS_2 _ _ _⟩
  have b20 := dg_l 20 w.toNat
  have tk : (dgL 20 w.toNat).take (dgL 20 w.toNat).length = dgL 20 w.toNat := List.take_length
  obtain ⟨τ, e, z⟩ := L94b (D := dgL 20 w.toNat) (dg_b 20 _) b20 (x1 := w) (n := (dgL 20 w.toNat).length) (dgL 20 w.toNat).length (wzS σ 4 0 (dgL 20 w.toNat)) L (Nat.le_refl _) (fun i hi => by rw [wzS_g, if_pos ⟨rfl, Nat.zero_le _, by omega⟩]; rfl) h1 (by rw [tk]; exact hl)
  rw [tk] at z
  have w64 : w.toNat < 10 ^ 20 := Nat.lt_trans w.isLt (by decide)
  refine ⟨τ, ?_, ⟨z.1, qC_t h2 z.2⟩⟩
  rw [M94, e94_0]
  refine L94a 20 0 w σ w (none, τ) rfl w64 (by decide) ?_
  rw [Nat.zero_add]
  rw [e94_54, w32_i (by omega) (by omega)]
  exact e
theorem L392b {D : List Int} (hD : ∀ z ∈ D, 48 ≤ z ∧ z ≤ 57) (hl20 : D.length ≤ 20) {x1 : B64} : ∀ (j : Nat) (σ : MS) (L : List Int), j ≤ D.length → (∀ i, i < D.length → gI σ 94 i = D.getD i 0) → otR σ L → (L ++ (D.take j).reverse).length ≤ 24000 → okc (RR (lkB tb392) (B392_54, [some (mR (some 80)), some (mL x1), none, some (mI (n : Int)), some (mL (BitVec.ofNat 64 0)), none, some (mI ((j : Int) - 1)), none], [], σ)) none (etR σ L (D.take j).reverse) := by
  intro j
  induction j with
  | zero =>
    intro σ L _ _ h _
    rw [e392_54, if_pos (by omega)]
    exact okc_s (etR_0 h)
  | succ j ih =>
    intro σ L hj hd h hl
    have hj' : j < D.length := by omega
    rw [rev_take hj'] at hl
    have ej : ((j + 1 : Nat) : Int) - 1 = (j : Int) := by omega
    have b := hD _ (gtD_m hj')
    rw [ej, e392_54, if_neg (by omega), if_pos (by rw [g_94]; omega), Int.toNat_natCast, hd j hj']
    refine okc_b (T390d h (app_l1 (M := [D.getD j 0]) hl) (by omega)) fun τ z => ?_
    simp only [Option.bind_some, Option.toList_some, Option.toList_none, List.cons_append, List.nil_append]
    have e1 : w32 ((j : Int) + (-1)) = (j : Int) - 1 := by
      rw [w32_i (by omega) (by omega)]
      omega
    rw [e392_70, e1]
    refine okc_m (ih τ (L ++ [D.getD j 0]) (by omega) (fun i hi => (z.2 i).trans (hd i hi)) z.1.1 (app_len (M := [D.getD j 0]) hl)) fun υ y => ?_
    rw [rev_take hj']
    exact etR_t (N := (D.take j).reverse) z.1 y
/-- a number -/
theorem T392 (h : otR σ L) (hl : (L ++ deT w.toNat).length ≤ 24000) : okc (MM 392 [mR (some 80), mL w] σ) none (etR σ L (deT w.toNat)) := by
  have h1 : otR (wzS σ 94 0 (dgL 20 w.toNat)) L := ⟨by rw [wzS_g, if_neg (by omega)]; exact h.1, fun i hi => by rw [wzS_g, if_neg (by omega)]; exact h.2 i hi⟩
  have h2 : qR σ (wzS σ 94 0 (dgL 20 w.toNat)) := ⟨fun k s z => by rw [wzS_g, if_neg (by omega)], wzS_2 _ _ _⟩
  have b20 := dg_l 20 w.toNat
  have tk : (dgL 20 w.toNat).take (dgL 20 w.toNat).length = dgL 20 w.toNat := List.take_length
  obtain ⟨τ, e, z⟩ := L392b (D := dgL 20 w.toNat) (dg_b 20 _) b20 (x1 := w) (n := (dgL 20 w.toNat).length) (dgL 20 w.toNat).length (wzS σ 94 0 (dgL 20 w.toNat)) L (Nat.le_refl _) (fun i hi => by rw [wzS_g, if_pos ⟨rfl, Nat.zero_le _, by omega⟩]; rfl) h1 (by rw [tk]; exact hl)
  rw [tk] at z
  have w64 : w.toNat < 10 ^ 20 := Nat.lt_trans w.isLt (by decide)
  refine ⟨τ, ?_, ⟨z.1, qR_t h2 z.2⟩⟩
  rw [M392, e392_0]
  refine L392a 20 0 w σ w (none, τ) rfl w64 (by decide) ?_
  rw [Nat.zero_add]
  exact e
theorem iLn_t (x : Int) (hx : -2147483648 ≤ x ∧ x < 0) : (-(iL x)).toNat = (-x).toNat := by
  rw [iLn]
  unfold iL
  rw [BitVec.toNat_ofInt]
  show (-x % 18446744073709551616).toNat = _
  omega
theorem iL_t (x : Int) (hx : 0 ≤ x ∧ x < 2147483648) : (iL x).toNat = x.toNat := by
  unfold iL
  rw [BitVec.toNat_ofInt]
  show (x % 18446744073709551616).toNat = _
  omega
/-- a number of 32 bits -/
theorem T95 (h : otC σ L) (hx : -2147483648 ≤ x ∧ x < 2147483648) (hl : (L ++ csX x).length ≤ 8192) : okc (MM 95 [mR (some 2), mI x] σ) none (etC σ L (csX x)) := by
  unfold csX at hl ⊢
  rw [M95, e95_0]
  by_cases c : x < 0
  · rw [if_pos c] at hl
    rw [if_pos c, if_neg (show ¬ 0 ≤ x by omega)]
    refine okc_b (T92 h (app_l1 (M := [45]) hl) (by decide)) fun τ z => ?_
    simp only [Option.bind_some, Option.toList_some, Option.toList_none, List.cons_append, List.nil_append]
    rw [e95_10, if_neg (show ¬ 0 ≤ x by omega), e95_23]
    refine okc_b (T94 z.1 (by rw [iLn_t x ⟨hx.1, c⟩]; exact app_len (M := [45]) hl)) fun υ y => ?_
    simp only [Option.bind_some, Option.toList_some, Option.toList_none, List.cons_append, List.nil_append]
    rw [e95_26]
    rw [iLn_t x ⟨hx.1, c⟩] at y
    exact okc_s (etC_t (M := [45]) z y)
  · rw [if_neg c] at hl
    rw [if_neg c, if_pos (show 0 ≤ x by omega), e95_10, if_pos (show 0 ≤ x by omega), e95_23]
    refine okc_b (T94 h (by rw [iL_t x ⟨by omega, hx.2⟩]; exact hl)) fun υ y => ?_
    simp only [Option.bind_some, Option.toList_some, Option.toList_none, List.cons_append, List.nil_append]
    rw [e95_26]
    rw [iL_t x ⟨by omega, hx.2⟩] at y
    exact okc_s y
theorem T96 (h : otC σ L) (hx : -2147483648 ≤ x ∧ x < 2147483648) (hl : (L ++ whT x).length ≤ 8192) : okc (MM 96 [mR (some 2), mI x] σ) none (etC σ L (whT x)) := by
  unfold whT at hl ⊢
  rw [M96, e96_0]
  by_cases c : x < 0
  · rw [if_pos c] at hl
    rw [if_pos c, if_neg (show ¬ 0 ≤ x by omega), e96_12]
    refine okc_b (T92 h (app_l1 (M := [45]) hl) (by decide)) fun τ z => ?_
    simp only [Option.bind_some, Option.toList_some, Option.toList_none, List.cons_append, List.nil_append]
    rw [e96_15, if_neg (show ¬ 0 ≤ x by omega), e96_28]
    refine okc_b (T94 z.1 (by rw [iLn_t x ⟨hx.1, c⟩]; exact app_len (M := [45]) hl)) fun υ y => ?_
    simp only [Option.bind_some, Option.toList_some, Option.toList_none, List.cons_append, List.nil_append]
    rw [e96_31]
    rw [iLn_t x ⟨hx.1, c⟩] at y
    exact okc_s (etC_t (M := [45]) z y)
  · rw [if_neg c] at hl
    rw [if_neg c, if_pos (show 0 ≤ x by omega), e96_12]
    refine okc_b (T92 h (app_l1 (M := [43]) hl) (by decide)) fun τ z => ?_
    simp only [Option.bind_some, Option.toList_some, Option.toList_none, List.cons_append, List.nil_append]
    rw [e96_15, if_pos (show 0 ≤ x by omega), e96_28]
    refine okc_b (T94 z.1 (by rw [iL_t x ⟨by omega, hx.2⟩]; exact app_len (M := [43]) hl)) fun υ y => ?_
    simp only [Option.bind_some, Option.toList_some, Option.toList_none, List.cons_append, List.nil_append]
    rw [e96_31]
    rw [iL_t x ⟨by omega, hx.2⟩] at y
    exact okc_s (etC_t (M := [43]) z y)
/-- a register -/
theorem T97 {f : Int} {b : Bool} (h : otC σ L) (hf : f = 0 ↔ b = false) (hx : 0 ≤ x ∧ x < 2147483648) (hl : (L ++ rgX b x).length ≤ 8192) : okc (MM 97 [mR (some 2), mI f, mI x] σ) none (etC σ L (rgX b x)) := by
  unfold rgX at hl ⊢
  rw [M97, e97_0]
  by_cases c : f = 0
  · rw [if_pos c, e97_12]
    rw [hf.mp c] at hl ⊢
    refine okc_b (T92 h (app_l1 (M := [119]) hl) (by decide)) fun τ z => ?_
    simp only [Option.bind_some, Option.toList_some, Option.toList_none, List.cons_append, List.nil_append]
    rw [e97_15]
    refine okc_b (T94 z.1 (by rw [iL_t x hx]; exact app_len (M := [119]) hl)) fun υ y => ?_
    simp only [Option.bind_some, Option.toList_some, Option.toList_none, List.cons_append, List.nil_append]
    rw [e97_21]
    rw [iL_t x hx] at y
    exact okc_s (etC_t (M := [119]) z y)
  · have eb : b = true := by
      cases b
      · exact absurd (hf.mpr rfl) c
      · exact rfl
    rw [if_neg c, e97_12]
    rw [eb] at hl ⊢
    refine okc_b (T92 h (app_l1 (M := [114]) hl) (by decide)) fun τ z => ?_
    simp only [Option.bind_some, Option.toList_some, Option.toList_none, List.cons_append, List.nil_append]
    rw [e97_15]
    refine okc_b (T94 z.1 (by rw [iL_t x hx]; exact app_len (M := [114]) hl)) fun υ y => ?_
    simp only [Option.bind_some, Option.toList_some, Option.toList_none, List.cons_append, List.nil_append]
    rw [e97_21]
    rw [iL_t x hx] at y
    exact okc_s (etC_t (M := [114]) z y)
/-- a number of 32 bits -/
theorem T393 (h : otR σ L) (hx : -2147483648 ≤ x ∧ x < 2147483648) (hl : (L ++ csX x).length ≤ 24000) : okc (MM 393 [mR (some 80), mI x] σ) none (etR σ L (csX x)) := by
  unfold csX at hl ⊢
  rw [M393, e393_0]
  by_cases c : x < 0
  · rw [if_pos c] at hl
    rw [if_pos c, if_neg (show ¬ 0 ≤ x by omega)]
    refine okc_b (T390 h (app_l1 (M := [45]) hl) (by decide)) fun τ z => ?_
    simp only [Option.bind_some, Option.toList_some, Option.toList_none, List.cons_append, List.nil_append]
    rw [e393_10, if_neg (show ¬ 0 ≤ x by omega), e393_23]
    refine okc_b (T392 z.1 (by rw [iLn_t x ⟨hx.1, c⟩]; exact app_len (M := [45]) hl)) fun υ y => ?_
    simp only [Option.bind_some, Option.toList_some, Option.toList_none, List.cons_append, List.nil_append]
    rw [e393_26]
    rw [iLn_t x ⟨hx.1, c⟩] at y
    exact okc_s (etR_t (M := [45]) z y)
  · rw [if_neg c] at hl
    rw [if_neg c, if_pos (show 0 ≤ x by omega), e393_10, if_pos (show 0 ≤ x by omega), e393_23]
    refine okc_b (T392 h (by rw [iL_t x ⟨by omega, hx.2⟩]; exact hl)) fun υ y => ?_
    simp only [Option.bind_some, Option.toList_some, Option.toList_none, List.cons_append, List.nil_append]
    rw [e393_26]
    rw [iL_t x ⟨by omega, hx.2⟩] at y
    exact okc_s y
theorem T394 (h : otR σ L) (hx : -2147483648 ≤ x ∧ x < 2147483648) (hl : (L ++ whT x).length ≤ 24000) : okc (MM 394 [mR (some 80), mI x] σ) none (etR σ L (whT x)) := by
  unfold whT at hl ⊢
  rw [M394, e394_0]
  by_cases c : x < 0
  · rw [if_pos c] at hl
    rw [if_pos c, if_neg (show ¬ 0 ≤ x by omega), e394_12]
    refine okc_b (T390 h (app_l1 (M := [45]) hl) (by decide)) fun τ z => ?_
    simp only [Option.bind_some, Option.toList_some, Option.toList_none, List.cons_append, List.nil_append]
    rw [e394_15, if_neg (show ¬ 0 ≤ x by omega), e394_28]
    refine okc_b (T392 z.1 (by rw [iLn_t x ⟨hx.1, c⟩]; exact app_len (M := [45]) hl)) fun υ y => ?_
    simp only [Option.bind_some, Option.toList_some, Option.toList_none, List.cons_append, List.nil_append]
    rw [e394_31]
    rw [iLn_t x ⟨hx.1, c⟩] at y
    exact okc_s (etR_t (M := [45]) z y)
  · rw [if_neg c] at hl
    rw [if_neg c, if_pos (show 0 ≤ x by omega), e394_12]
    refine okc_b (T390 h (app_l1 (M := [43]) hl) (by decide)) fun τ z => ?_
    simp only [Option.bind_some, Option.toList_some, Option.toList_none, List.cons_append, List.nil_append]
    rw [e394_15, if_pos (show 0 ≤ x by omega), e394_28]
    refine okc_b (T392 z.1 (by rw [iL_t x ⟨by omega, hx.2⟩]; exact app_len (M := [43]) hl)) fun υ y => ?_
    simp only [Option.bind_some, Option.toList_some, Option.toList_none, List.cons_append, List.nil_append]
    rw [e394_31]
    rw [iL_t x ⟨by omega, hx.2⟩] at y
    exact okc_s (etR_t (M := [43]) z y)
/-- a register -/
theorem T395 {f : Int} {b : Bool} (h : otR σ L) (hf : f = 0 ↔ b = true) (hx : 0 ≤ x ∧ x < 2147483648) (hl : (L ++ rgX b x).length ≤ 24000) : okc (MM 395 [mR (some 80), mI f, mI x] σ) none (etR σ L (rgX b x)) := by
  unfold rgX at hl ⊢
  rw [M395, e395_0]
  by_cases c : f = 0
  · rw [if_pos c, e395_12]
    rw [hf.mp c] at hl ⊢
    refine okc_b (T390 h (app_l1 (M := [114]) hl) (by decide)) fun τ z => ?_
    simp only [Option.bind_some, Option.toList_some, Option.toList_none, List.cons_append, List.nil_append]
    rw [e395_15]
    refine okc_b (T392 z.1 (by rw [iL_t x hx]; exact app_len (M := [114]) hl)) fun υ y => ?_
    simp only [Option.bind_some, Option.toList_some, Option.toList_none, List.cons_append, List.nil_append]
    rw [e395_21]
    rw [iL_t x hx] at y
    exact okc_s (etR_t (M := [114]) z y)
  · have eb : b = false := by
      cases b
      · exact rfl
      · exact absurd (hf.mpr rfl) c
    rw [if_neg c, e395_12]
    rw [eb] at hl ⊢
    refine okc_b (T390 h (app_l1 (M := [119]) hl) (by decide)) fun τ z => ?_
    simp only [Option.bind_some, Option.toList_some, Option.toList_none, List.cons_append, List.nil_append]
    rw [e395_15]
    refine okc_b (T392 z.1 (by rw [iL_t x hx]; exact app_len (M := [119]) hl)) fun υ y => ?_
    simp only [Option.bind_some, Option.toList_some, Option.toList_none, List.cons_append, List.nil_append]
    rw [e395_21]
    rw [iL_t x hx] at y
    exact okc_s (etR_t (M := [119]) z y)
end PRT1
