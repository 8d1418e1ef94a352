/-! ===== print: whole programs, on both sides ===== -/
/-- the text of words from i on -/
noncomputable def prA (p : Nat → B64) (n : Nat) : Nat → Nat → List Int
  | 0, _ => []
  | f + 1, i => if i < n then (if spn p n i = 1 then prS (p i) else if spn p n i = 2 then prP (p i) (p (i + 1)) else prB (p i)) ++ ([10] ++ prA p n f (i + (if spn p n i = 2 then 2 else 1))) else []
section PRT4
variable {σ τ ρ : MS} {L M N R : List Int} {i j k n r X : Nat} {c x sg : Int} {w w2 : B64} {b : Bool} {p : Nat → B64}
theorem dg_k : ∀ (f k v : Nat), v < 10 ^ k → 0 < k → (dgL f v).length ≤ k := by
  intro f
  induction f with
  | zero => intro k v _ _; exact Nat.zero_le _
  | succ f ih =>
    intro k v hv hk
    show (_ :: _).length ≤ _
    rw [List.length_cons]
    by_cases c : v / 10 = 0
    · rw [if_pos c]
      show 0 + 1 ≤ k
      omega
    · rw [if_neg c]
      obtain ⟨k', rfl⟩ : ∃ k', k = k' + 1 := ⟨k - 1, by omega⟩
      have hv' : v / 10 < 10 ^ k' := by
        rw [Nat.pow_succ] at hv
        omega
      have k0 : 0 < k' := by
        rcases Nat.eq_zero_or_pos k' with y | y
        · rw [y] at hv'
          omega
        · exact y
      exact Nat.succ_le_succ (ih k' _ hv' k0)
theorem de_k (h : n < 10 ^ k) (hk : 0 < k) : (deT n).length ≤ k := by
  unfold deT
  rw [List.length_reverse]
  exact dg_k 20 k n h hk
theorem rg_l (b : Bool) (h : 0 ≤ x ∧ x < 16) : (rgX b x).length ≤ 3 := by
  have := de_k (n := x.toNat) (k := 2) (by omega) (by decide)
  unfold rgX
  rw [List.length_cons]
  omega
theorem fD16 (w : B64) : 0 ≤ fD w ∧ fD w < 16 := by
  unfold fD
  omega
theorem fS16 (w : B64) : 0 ≤ fS w ∧ fS w < 16 := by
  unfold fS
  omega
theorem cs_l (h : -2147483648 ≤ x ∧ x < 2147483648) : (csX x).length ≤ 11 := by
  unfold csX
  split
  · have := de_k (n := (-x).toNat) (k := 10) (by omega) (by decide)
    rw [List.length_cons]
    omega
  · have := de_k (n := x.toNat) (k := 10) (by omega) (by decide)
    omega
theorem wh_l (h : -2147483648 ≤ x ∧ x < 2147483648) : (whT x).length ≤ 11 := by
  unfold whT
  split
  · have := de_k (n := (-x).toNat) (k := 10) (by omega) (by decide)
    rw [List.length_cons]
    omega
  · have := de_k (n := x.toNat) (k := 10) (by omega) (by decide)
    rw [List.length_cons]
    omega
theorem wh_l5 (h : -32768 ≤ x ∧ x ≤ 32767) : (whT x).length ≤ 6 := by
  unfold whT
  split
  · have := de_k (n := (-x).toNat) (k := 5) (by omega) (by decide)
    rw [List.length_cons]
    omega
  · have := de_k (n := x.toNat) (k := 5) (by omega) (by decide)
    rw [List.length_cons]
    omega
theorem sx_l : ∀ j, j < 49 → (sxT j).length ≤ 8 := by decide +kernel
theorem sx_6 : (sxT 6).length = 3 ∧ (sxT 7).length = 3 ∧ (sxT 4).length = 2 ∧ (sxT 5).length = 4 ∧ (sxT 2).length = 3 ∧ (sxT 20).length = 3 ∧ (sxT 21).length = 6 ∧ (sxT 1).length = 7 ∧ (sxT 3).length = 3 ∧ (sxT 0).length = 7 := by decide +kernel
theorem cm_l (c : Int) : (sxT (cmJ c)).length ≤ 5 := by
  unfold cmJ
  repeat' split
  all_goals decide +kernel
theorem xs_l (c : Int) : (sxT (xsJ c)).length ≤ 4 := by
  unfold xsJ
  repeat' split
  all_goals decide +kernel
theorem op_l (c x : Int) : (sxT (opJ c x)).length ≤ 6 := by
  unfold opJ
  repeat' split
  all_goals decide +kernel
theorem xp_l (x : Int) : (sxT (xpJ x)).length ≤ 8 := by
  unfold xpJ
  repeat' split
  all_goals decide +kernel
theorem si_l (b : Bool) (w : B64) : (sieT b w).length ≤ 11 := by
  unfold sieT
  split
  · have := rg_l b (fS16 w)
    omega
  · exact cs_l (fIb w)
theorem pl_l (h : 0 ≤ x ∧ x < 16) : (plT sg w x).length ≤ 21 := by
  have bn := byN_v w
  have fo := fO_r w
  have a1 := rg_l true h
  have a2 := de_k (n := 8 * bytN w) (k := 2) (by omega) (by decide)
  have a3 := de_k (n := (fO w).natAbs) (k := 5) (by omega) (by decide)
  have a4 : (sxT (if fO w < 0 then 6 else 7)).length = 3 := by
    split
    · exact sx_6.1
    · exact sx_6.2.1
  obtain ⟨_, _, b4, b5, _⟩ := sx_6
  unfold plT
  simp only [List.length_append, List.length_cons, List.length_nil]
  omega
theorem sro_l (w : B64) : (sroT w).length ≤ 36 := by
  have a1 := pl_l (sg := 117) (w := w) (fD16 w)
  have a2 := rg_l true (fS16 w)
  have a3 := xp_l (fI w)
  have a4 := xs_l (fI w)
  obtain ⟨_, _, _, _, b2', _⟩ := sx_6
  unfold sroT
  split <;> simp only [List.length_append] <;> omega
theorem jm_l (w : B64) : (jmT w).length ≤ 34 := by
  have a1 := rg_l (decide (fL w = 5)) (fD16 w)
  have a2 := cm_l (fC w)
  have a3 := si_l (decide (fL w = 5)) w
  have a4 := wh_l5 (fO_r w)
  have a5 := wh_l (fIb w)
  have a6 := de_l (iL (fI w)).toNat
  have s17 := sx_l 17 (by decide)
  have s18 := sx_l 18 (by decide)
  have s19 := sx_l 19 (by decide)
  have s22 := sx_l 22 (by decide)
  obtain ⟨_, _, _, _, _, b20, b21, _⟩ := sx_6
  unfold jmT
  repeat' split
  all_goals try simp only [List.length_append]
  all_goals omega
theorem au_l (w : B64) : (auT w).length ≤ 36 := by
  have a1 := rg_l (decide (fL w = 7 ∨ fC w = 208)) (fD16 w)
  have a1' := rg_l (decide (fL w = 7 ∨ fC w = 208)) (fS16 w)
  have a2 := rg_l true (fD16 w)
  have a3 := si_l (decide (fL w = 7 ∨ fC w = 208)) w
  have a4 := op_l (fC w) (fO w)
  have a6 := de_l (iL (fI w)).toNat
  have a7 := de_l (iL (fO w)).toNat
  have s34 := sx_l 34 (by decide)
  have s35 := sx_l 35 (by decide)
  have s36 := sx_l 36 (by decide)
  have s37 := sx_l 37 (by decide)
  have s38 := sx_l 38 (by decide)
  have s39 := sx_l 39 (by decide)
  have t38 : (sxT 38).length = 5 ∧ (sxT 39).length = 2 ∧ (sxT 37).length = 5 := by decide +kernel
  unfold auT
  repeat' split
  all_goals simp only [List.length_append, List.length_cons, List.length_nil]
  all_goals omega
theorem prS_l (w : B64) : (prS w).length ≤ 36 := by
  have a1 := rg_l true (fD16 w)
  have a2 := pl_l (sg := if fM w = 128 then 115 else 117) (w := w) (fS16 w)
  have a3 := pl_l (sg := 117) (w := w) (fD16 w)
  have a4 := cs_l (fIb w)
  have a5 := sro_l w
  have a6 := jm_l w
  have a7 := au_l w
  obtain ⟨_, _, _, _, b2', _⟩ := sx_6
  unfold prS
  split
  · simp only [List.length_append]
    omega
  · split
    · simp only [List.length_append]
      omega
    · split
      · exact a5
      · split
        · omega
        · exact a7
theorem prP_l (w w2 : B64) : (prP w w2).length ≤ 36 := by
  have a1 := rg_l true (fD16 w)
  have a6 := de_l (iL (fI w)).toNat
  have a7 := de_l (lUsh w 32 ||| w2).toNat
  obtain ⟨_, _, _, _, b2', _, _, b1, b3, _⟩ := sx_6
  unfold prP
  split <;> simp only [List.length_append] <;> omega
theorem hx_l (w : B64) : ∀ j, (hxL w j).length = j
  | 0 => rfl
  | j + 1 => by
    show (_ :: _).length = _
    rw [List.length_cons, hx_l w j]
theorem prB_l (w : B64) : (prB w).length ≤ 36 := by
  have a := hx_l w 16
  obtain ⟨_, _, _, _, _, _, _, _, _, b0⟩ := sx_6
  unfold prB
  rw [List.length_append]
  omega
theorem prA_l : ∀ (f i : Nat), (prA p n f i).length ≤ 40 * (n - i) := by
  intro f
  induction f with
  | zero => intro i; exact Nat.zero_le _
  | succ f ih =>
    intro i
    unfold prA
    by_cases c : i < n
    · rw [if_pos c]
      have h := ih (i + (if spn p n i = 2 then 2 else 1))
      have b : ((if spn p n i = 1 then prS (p i) else if spn p n i = 2 then prP (p i) (p (i + 1)) else prB (p i)) : List Int).length ≤ 36 := by
        split
        · exact prS_l _
        · split
          · exact prP_l _ _
          · exact prB_l _
      rw [List.length_append, List.length_append, List.length_singleton]
      have s1 : (if spn p n i = 2 then 2 else 1) = 2 ∨ (if spn p n i = 2 then 2 else 1) = 1 := by
        split
        · exact Or.inl rfl
        · exact Or.inr rfl
      omega
    · rw [if_neg c]
      exact Nat.zero_le _
/-! digits in hex -/
theorem and15h (z : B64) : (z &&& 15#64).toInt = lI z % 16 := by
  have n1 : (z &&& 15#64).toNat = z.toNat % 16 := by
    rw [BitVec.toNat_and]
    exact Nat.and_two_pow_sub_one_eq_mod _ 4
  have n2 := toInt_c (z &&& 15#64)
  rw [n1, if_pos (by omega)] at n2
  rw [n2]
  unfold lI w32
  have n3 := toInt_c z
  rw [Int.bmod_def]
  split at n3 <;> split <;> omega
theorem bt15 (j : Nat) : (15#64).getLsbD j = decide (j < 4) := by
  have e : (15#64 : B64) = BitVec.ofNat 64 (2 ^ 4 - 1) := rfl
  rw [e, BitVec.getLsbD_ofNat, Nat.testBit_two_pow_sub_one]
  by_cases q : j < 4
  · rw [decide_eq_true q, decide_eq_true (show j < 64 by omega)]
    rfl
  · rw [decide_eq_false q, Bool.and_false]
theorem an15 (z : B64) : iAnd (lI z) 15 = lI z % 16 := iAnd_mask (k := 4) (by omega)
theorem lI16 (z : B64) : lI z % 16 = ((z.toNat % 16 : Nat) : Int) := by
  rw [← and15h]
  have n1 : (z &&& 15#64).toNat = z.toNat % 16 := by
    rw [BitVec.toNat_and]
    exact Nat.and_two_pow_sub_one_eq_mod _ 4
  have n2 := toInt_c (z &&& 15#64)
  rw [n1, if_pos (by omega)] at n2
  exact n2
theorem hx_r (w : B64) (hj : j < 16) : iAnd (lI (lUsh w ((4 * j : Nat) : Int))) 15 = ((w.toNat / 16 ^ j % 16 : Nat) : Int) := by
  have a2 : lUsh w ((4 * j : Nat) : Int) = w >>> (4 * j) := by
    unfold lUsh
    rw [show (((4 * j : Nat) : Int) % 64).toNat = 4 * j by omega]
  rw [an15, lI16, a2, BitVec.toNat_ushiftRight, Nat.shiftRight_eq_div_pow, Nat.pow_mul]
theorem hx_c (w : B64) (hj : j < 16) : iAnd (lI (lShr w ((4 * j : Nat) : Int))) 15 = ((w.toNat / 16 ^ j % 16 : Nat) : Int) := by
  rw [← hx_r w hj, an15, an15]
  have a1 : lShr w ((4 * j : Nat) : Int) = w.sshiftRight (4 * j) := lShr_k _ (by omega)
  have a2 : lUsh w ((4 * j : Nat) : Int) = w >>> (4 * j) := by
    unfold lUsh
    rw [show (((4 * j : Nat) : Int) % 64).toNat = 4 * j by omega]
  rw [a1, a2, ← and15h, ← and15h]
  refine congrArg BitVec.toInt ?_
  apply BitVec.eq_of_getLsbD_eq
  intro i hi
  rw [BitVec.getLsbD_and, BitVec.getLsbD_and, bt15]
  by_cases j8 : i < 4
  · rw [BitVec.getLsbD_sshiftRight, BitVec.getLsbD_ushiftRight, if_pos (by omega)]
    have : ¬ 64 ≤ i := by omega
    simp [this]
  · rw [decide_eq_false j8, Bool.and_false, Bool.and_false]
theorem hx_9 (w : B64) (j : Nat) : w.toNat / 16 ^ j % 16 < 16 := Nat.mod_lt _ (by decide)
theorem L100 : ∀ (j : Nat) (σ : MS) (L : List Int), j ≤ 16 → otC σ L → (L ++ hxL w j).length ≤ 8192 → okc (RR (lkB tb100) (B100_9, [some (mR (some 2)), some (mL w), none, some (mI (4 * (j : Int) - 4)), none], [], σ)) none (etC σ L (hxL w j)) := by
  intro j
  induction j with
  | zero =>
    intro σ L _ h _
    rw [e100_9, if_pos (by omega)]
    exact okc_s (etC_0 h)
  | succ j ih =>
    intro σ L hj h hl
    have ej : 4 * ((j + 1 : Nat) : Int) - 4 = ((4 * j : Nat) : Int) := by omega
    have hl' : (L ++ ([hxD w j] ++ hxL w j)).length ≤ 8192 := hl
    have e1 : w32 (((4 * j : Nat) : Int) + (-4)) = 4 * (j : Int) - 4 := by
      rw [w32_i (by omega) (by omega)]
      omega
    have b := hx_9 w j
    have bd : -128 ≤ hxD w j ∧ hxD w j < 128 := by
      unfold hxD
      split <;> omega
    have e9 : RR (lkB tb100) (B100_9, [some (mR (some 2)), some (mL w), none, some (mI ((4 * j : Nat) : Int)), none], [], σ) = RR (lkB tb100) (B100_46, [some (mR (some 2)), some (mL w), none, some (mI ((4 * j : Nat) : Int)), some (mI ((w.toNat / 16 ^ j % 16 : Nat) : Int))], [mI (hxD w j), mR (some 2)], σ) := by
      unfold hxD
      rw [e100_9, if_neg (by omega), hx_c w (by omega)]
      generalize w.toNat / 16 ^ j % 16 = d at b
      by_cases c : d < 10
      · rw [if_neg (by omega), if_pos c, w32_i (by omega) (by omega)]
      · rw [if_pos (by omega), if_neg c, w32_i (x := 97 + (d : Int)) (by omega) (by omega), w32_i (by omega) (by omega), show 97 + (d : Int) - 10 = 87 + (d : Int) by omega]
    rw [ej, e9, e100_46]
    refine okc_b (T92 h (app_l1 hl') bd) fun τ z => ?_
    simp only [Option.bind_some, Option.toList_some, Option.toList_none, List.cons_append, List.nil_append]
    rw [e100_49, e1]
    refine okc_q (ls := [some (mR (some 2)), some (mL w), none, some (mI (4 * (j : Int) - 4)), none]) (by repeat (first | exact lq_nil | refine lq_cons (Or.inr rfl) ?_ | refine lq_cons (Or.inl rfl) ?_)) ?_
    exact okc_m (ih τ (L ++ [hxD w j]) (by omega) z.1 (app_len hl')) fun υ y => etC_t (M := [hxD w j]) z y
theorem T100 (h : otC σ L) (hl : (L ++ prB w).length ≤ 8192) : okc (MM 100 [mR (some 2), mL w] σ) none (etC σ L (prB w)) := by
  unfold prB at hl ⊢
  rw [M100, e100_0]
  refine okc_b (T93 h (by decide) (app_l1 hl)) fun τ z => ?_
  simp only [Option.bind_some, Option.toList_some, Option.toList_none, List.cons_append, List.nil_append]
  rw [e100_6]
  exact okc_m (L100 16 τ _ (Nat.le_refl _) z.1 (app_len hl)) fun υ y => etC_t z y
theorem L99 (hX : X < 8) (hn : n ≤ 200) : ∀ (f t i : Nat) (σ : MS) (L : List Int), t + f = n → t ≤ i → i ≤ 300 → (∀ j, gL σ (7 + X) j = p j) → otC σ L → (L ++ prA p n f i).length ≤ 8192 → okc (RR (lkB tb99) (B99_10, [some (mR (some 2)), some (mR (some (7 + X))), some (mI (n : Int)), some (mI (i : Int)), some (mI (t : Int)), none], [], σ)) none (etC σ L (prA p n f i)) := by
  have hg : ∀ (σ : MS) (j : Int), (Option.isSome (some (7 + X)) = true ∧ ab σ 4 (7 + X) j) = (0 ≤ j ∧ j < 200) := fun σ j => gdK (cu_kd (σ := σ) X hX)
  intro f
  induction f with
  | zero =>
    intro t i σ L ht hi _ _ h _
    rw [e99_10, if_pos (by omega)]
    exact okc_s (etC_0 h)
  | succ f ih =>
    intro t i σ L ht hi hi3 hp h hl
    unfold prA at hl ⊢
    rw [e99_10, if_neg (by omega)]
    by_cases c : i < n
    · rw [if_pos c] at hl ⊢
      have hps : (fun j => gL σ (7 + X) j) = p := funext hp
      have t6 := T6 (σ := σ) (k := 7 + X) hn c (hg σ)
      rw [hps] at t6
      have g1 : Option.isSome (some (7 + X)) = true ∧ ab σ 4 (Option.getD (some (7 + X)) 0) (i : Int) := (hg σ (i : Int)) ▸ (by omega)
      have tl : ∀ (s : Nat) (υ : MS) (L' : List Int), (spn p n i = s) → (∀ j, gL υ (7 + X) j = p j) → otC υ L' → (L' ++ ([10] ++ prA p n f (i + (if spn p n i = 2 then 2 else 1)))).length ≤ 8192 → okc (RR (lkB tb99) (B99_73, [some (mR (some 2)), some (mR (some (7 + X))), some (mI (n : Int)), some (mI (i : Int)), some (mI (t : Int)), some (mI (s : Int))], [], υ)) none (etC υ L' ([10] ++ prA p n f (i + (if spn p n i = 2 then 2 else 1)))) := fun s υ L' es hpυ h' hl' => by
        rw [e99_73]
        refine okc_b (T92 h' (app_l1 hl') (by decide)) fun τ z => ?_
        simp only [Option.bind_some, Option.toList_some, Option.toList_none, List.cons_append, List.nil_append]
        have e79 : RR (lkB tb99) (B99_79, [some (mR (some 2)), some (mR (some (7 + X))), some (mI (n : Int)), some (mI (i : Int)), some (mI (t : Int)), some (mI (s : Int))], [], τ) = RR (lkB tb99) (B99_10, [some (mR (some 2)), some (mR (some (7 + X))), some (mI (n : Int)), some (mI ((i + (if spn p n i = 2 then 2 else 1) : Nat) : Int)), some (mI ((t + 1 : Nat) : Int)), some (mI (s : Int))], [], τ) := by
          have ew : w32 ((t : Int) + 1) = ((t + 1 : Nat) : Int) := by
            rw [w32_i (by omega) (by omega)]
            omega
          rw [e99_79, es]
          by_cases q : s = 2
          · have e2 : w32 ((i : Int) + 2) = ((i + 2 : Nat) : Int) := by
              rw [w32_i (by omega) (by omega)]
              omega
            rw [if_neg (show ¬ ¬ (s : Int) = 2 by omega), if_pos q, e99_91, ew, e2]
          · have e2 : w32 ((i : Int) + 1) = ((i + 1 : Nat) : Int) := by
              rw [w32_i (by omega) (by omega)]
              omega
            rw [if_pos (show ¬ (s : Int) = 2 by omega), if_neg q, e99_91, ew, e2]
        rw [e79]
        refine okc_q (ls := [some (mR (some 2)), some (mR (some (7 + X))), some (mI (n : Int)), some (mI ((i + (if spn p n i = 2 then 2 else 1) : Nat) : Int)), some (mI ((t + 1 : Nat) : Int)), none]) (by repeat (first | exact lq_nil | refine lq_cons (Or.inr rfl) ?_ | refine lq_cons (Or.inl rfl) ?_)) ?_
        have s1 : 1 ≤ (if spn p n i = 2 then 2 else 1) ∧ (if spn p n i = 2 then 2 else 1) ≤ 2 := by
          split <;> omega
        exact okc_m (ih (t + 1) _ τ _ (by omega) (by omega) (by omega) (fun j => ((congrFun (congrFun (congrArg Prod.fst z.2.2) (7 + X)) j)).trans (hpυ j)) z.1 (app_len hl')) fun υ y => etC_t (M := [10]) z y
      have hpq : ∀ υ, qC σ υ → ∀ j, gL υ (7 + X) j = p j := fun υ q j => (congrFun (congrFun (congrArg Prod.fst q.2) (7 + X)) j).trans (hp j)
      rw [if_neg (by omega), t6]
      simp only [Option.bind_some, Option.toList_some, Option.toList_none, List.cons_append, List.nil_append]
      rw [e99_27]
      by_cases s1 : spn p n i = 1
      · have e1 : ((spn p n i : Nat) : Int) = 1 := by omega
        rw [if_pos s1] at hl ⊢
        rw [if_neg (show ¬ ¬ ((spn p n i : Nat) : Int) = 1 by omega), if_pos g1, Int.toNat_natCast]
        show okc ((MM 102 [mR (some 2), mL (gL σ (7 + X) i)] σ).bind _) none _
        rw [hp i]
        refine okc_b (T102 h (app_l1 hl)) fun τ z => ?_
        simp only [Option.bind_some, Option.toList_some, Option.toList_none, List.cons_append, List.nil_append]
        rw [e99_42]
        exact okc_m (tl _ τ _ rfl (hpq τ z.2) z.1 (app_len hl)) fun υ y => etC_t z y
      · rw [if_neg s1] at hl ⊢
        rw [if_pos (show ¬ ((spn p n i : Nat) : Int) = 1 by omega)]
        by_cases s2 : spn p n i = 2
        · have i1 := (spn_in (p := p) (n := n) (i := i) (by omega) c).1
          have ew : w32 ((i : Int) + 1) = ((i + 1 : Nat) : Int) := by
            rw [w32_i (by omega) (by omega)]
            omega
          have g2 : Option.isSome (some (7 + X)) = true ∧ ab σ 4 (Option.getD (some (7 + X)) 0) ((i + 1 : Nat) : Int) := (hg σ ((i + 1 : Nat) : Int)) ▸ (by omega)
          rw [if_pos s2] at hl
          rw [if_pos s2, if_neg (show ¬ ¬ ((spn p n i : Nat) : Int) = 2 by omega), if_pos g1, ew, if_pos g2, Int.toNat_natCast, Int.toNat_natCast]
          show okc ((MM 101 [mR (some 2), mL (gL σ (7 + X) i), mL (gL σ (7 + X) (i + 1))] σ).bind _) none _
          rw [hp i, hp (i + 1)]
          rw [if_pos s2] at tl
          rw [if_pos s2] at hl
          rw [if_pos s2]
          refine okc_b (T101 h (app_l1 hl)) fun τ z => ?_
          simp only [Option.bind_some, Option.toList_some, Option.toList_none, List.cons_append, List.nil_append]
          rw [e99_63]
          exact okc_m (tl _ τ _ rfl (hpq τ z.2) z.1 (app_len hl)) fun υ y => etC_t z y
        · rw [if_neg s2] at hl
          rw [if_neg s2, if_pos (show ¬ ((spn p n i : Nat) : Int) = 2 by omega), if_pos g1, Int.toNat_natCast]
          show okc ((MM 100 [mR (some 2), mL (gL σ (7 + X) i)] σ).bind _) none _
          rw [hp i]
          rw [if_neg s2] at tl
          rw [if_neg s2] at hl
          rw [if_neg s2]
          refine okc_b (T100 h (app_l1 hl)) fun τ z => ?_
          simp only [Option.bind_some, Option.toList_some, Option.toList_none, List.cons_append, List.nil_append]
          exact okc_m (tl _ τ _ rfl (hpq τ z.2) z.1 (app_len hl)) fun υ y => etC_t z y
    · rw [if_neg c, if_pos (by omega)]
      exact okc_s (etC_0 h)
theorem otC_z : otC (sI σ 2 1 0) [] := ⟨by rw [gI_sI, if_pos ⟨rfl, rfl⟩]; rfl, fun i hi => absurd hi (Nat.not_lt_zero _)⟩
theorem qC_z : qC σ (sI σ 2 1 x) := ⟨fun k s z => by rw [gI_sI, if_neg (fun y => z (Or.inr (Or.inr y)))], rfl⟩
/-- print: the class -/
theorem T299 (hX : X < 8) (hs : gR σ 6 X = some (7 + X)) (hc : gI σ 15 X = (n : Int)) (hn : n ≤ 200) (n0 : 0 < n) : okc (MM 299 [mR (some 0), mI (X : Int)] σ) (some (mI ((prA (fun j => gL σ (7 + X) j) n n 0).length : Int))) (fun τ => otC τ (prA (fun j => gL σ (7 + X) j) n n 0) ∧ qC σ τ) := by
  have t97 := T297 (σ := σ) hX
  rw [hc] at t97
  have b := prA_l (p := fun j => gL σ (7 + X) j) (n := n) n 0
  rw [M299, e299_0, t97]
  simp only [Option.bind_some, Option.toList_some, Option.toList_none, List.cons_append, List.nil_append]
  rw [e299_5, if_pos (by omega), if_pos (by rw [g_6]; omega), Int.toNat_natCast, hs, M99, e99_0]
  refine okc_b (okc_m (L99 (p := fun j => gL σ (7 + X) j) hX hn n 0 0 (sI σ 2 1 0) [] (by omega) (Nat.le_refl _) (by omega) (fun j => rfl) otC_z (by rw [List.nil_append]; omega)) fun τ y => y) fun τ z => ?_
  simp only [Option.bind_some, Option.toList_some, Option.toList_none, List.cons_append, List.nil_append]
  have z1 : otC τ (prA (fun j => gL σ (7 + X) j) n n 0) := z.1
  rw [e299_29, z1.1]
  exact okc_s ⟨z1, qC_t qC_z z.2⟩
theorem T299n (h : (x < 0 ∨ 8 ≤ x) ∨ (∃ X : Nat, X < 8 ∧ x = (X : Int) ∧ gI σ 15 X = 0)) : MM 299 [mR (some 0), mI x] σ = some (some (mI (-1)), σ) := by
  rw [M299, e299_0]
  rcases h with h | ⟨X, h1, h2, h3⟩
  · rw [T297n h]
    simp only [Option.bind_some, Option.toList_some, Option.toList_none, List.cons_append, List.nil_append]
    rw [e299_5, if_neg (fun z => z rfl)]
  · rw [h2, T297 h1, h3]
    simp only [Option.bind_some, Option.toList_some, Option.toList_none, List.cons_append, List.nil_append]
    rw [e299_5, if_neg (fun z => z rfl)]
/-- the reference: how many words an instruction has, in any slot -/
theorem T345x (hX : X < 8) (h84 : gI σ 84 X = (n : Int)) (hn : n ≤ 200) (hp : ∀ j, gL σ 83 (200 * X + j) = p j) (hi : i < n) : MM 345 [mR (some 80), mI (X : Int), mI (i : Int)] σ = some (some (mI ((spn p n i : Nat) : Int)), σ) := by
  have z3 : 0 ≤ (X : Int) := by omega
  have z4 : (X : Int) < 8 := by omega
  have i2 : i < 200 := by omega
  have b0 : 0 ≤ ((200 * X + i : Nat) : Int) ∧ ((200 * X + i : Nat) : Int) < 1600 := by omega
  have ew : gL σ 83 (200 * X + i) = p i := hp i
  have wX : w32 (w32 (200 * (X : Int)) + (i : Int)) = ((200 * X + i : Nat) : Int) := by
    rw [w32_i (x := 200 * (X : Int)) (by omega) (by omega), w32_i (by omega) (by omega)]
    omega
  have hm : 200 * X + i < 100000 := by omega
  have hi6 : i < 100000 := by omega
  unfold spn
  by_cases c : fOp (p i) = 24
  · rw [if_pos c]
    by_cases l : i + 1 < n
    · have nl : ¬ gI σ 84 X ≤ ((i + 1 : Nat) : Int) := by omega
      have b1 : 0 ≤ ((200 * X + i + 1 : Nat) : Int) ∧ ((200 * X + i + 1 : Nat) : Int) < 1600 := by omega
      have e1 : gL σ 83 (200 * X + i + 1) = p (i + 1) := hp (i + 1)
      by_cases q : okPr (p i) (p (i + 1))
      · rw [if_pos ⟨l, q⟩]
        have t := T344 (w := p i) (w2 := p (i + 1)) (σ := σ)
        rw [b2_yes q] at t
        simp only [M345, e345_0, e345_17, e345_52, Option.getD_some, Option.bind_some, Option.toList_some, Option.toList_none, List.cons_append, List.nil_append, and_self, and_true, true_and, false_and, and_false, ite_self, not_true_eq_false, not_false_eq_true, reduceIte, Nat.reduceEqDiff, ab_I, ab_L, ab_R, ao_I, ao_L, ao_R, gL_sL, gI_sI, gR_sR, gI_sL, gI_sR, gL_sI, gL_sR, gR_sI, gR_sL, g_83, g_84, wX, b0.1, b0.2, Int.toNat_natCast, ew, T332, eq_true c, z3, z4, w32_s hi6, nl, w32_s hm, b1.1, b1.2, e1, t, oneI]
        rfl
      · rw [if_neg (fun z => q z.2)]
        have t := T344 (w := p i) (w2 := p (i + 1)) (σ := σ)
        rw [b2_no q] at t
        simp only [M345, e345_0, e345_17, e345_52, e345_59, Option.getD_some, Option.bind_some, Option.toList_some, Option.toList_none, List.cons_append, List.nil_append, and_self, and_true, true_and, false_and, and_false, ite_self, not_true_eq_false, not_false_eq_true, reduceIte, Nat.reduceEqDiff, ab_I, ab_L, ab_R, ao_I, ao_L, ao_R, gL_sL, gI_sI, gR_sR, gI_sL, gI_sR, gL_sI, gL_sR, gR_sI, gR_sL, g_83, g_84, wX, b0.1, b0.2, Int.toNat_natCast, ew, T332, eq_true c, z3, z4, w32_s hi6, nl, w32_s hm, b1.1, b1.2, e1, t]
        rfl
    · have nl : gI σ 84 X ≤ ((i + 1 : Nat) : Int) := by omega
      rw [if_neg (fun z => l z.1)]
      simp only [M345, e345_0, e345_17, e345_59, Option.getD_some, Option.bind_some, Option.toList_some, Option.toList_none, List.cons_append, List.nil_append, and_self, and_true, true_and, false_and, and_false, ite_self, not_true_eq_false, not_false_eq_true, reduceIte, Nat.reduceEqDiff, ab_I, ab_L, ab_R, ao_I, ao_L, ao_R, gL_sL, gI_sI, gR_sR, gI_sL, gI_sR, gL_sI, gL_sR, gR_sI, gR_sL, g_83, g_84, wX, b0.1, b0.2, Int.toNat_natCast, ew, T332, eq_true c, z3, z4, w32_s hi6, nl]
      rfl
  · rw [if_neg c]
    have t := T343 (w := p i) (σ := σ)
    by_cases q : okPl (p i)
    · rw [if_pos q]
      rw [b2_yes q] at t
      simp only [M345, e345_0, e345_17, e345_65, Option.getD_some, Option.bind_some, Option.toList_some, Option.toList_none, List.cons_append, List.nil_append, and_self, and_true, true_and, false_and, and_false, ite_self, not_true_eq_false, not_false_eq_true, reduceIte, Nat.reduceEqDiff, ab_I, ab_L, ab_R, ao_I, ao_L, ao_R, gL_sL, gI_sI, gR_sR, gI_sL, gI_sR, gL_sI, gL_sR, gR_sI, gR_sL, g_83, wX, b0.1, b0.2, Int.toNat_natCast, ew, T332, c, t, oneI]
      rfl
    · rw [if_neg q]
      rw [b2_no q] at t
      simp only [M345, e345_0, e345_17, e345_65, Option.getD_some, Option.bind_some, Option.toList_some, Option.toList_none, List.cons_append, List.nil_append, and_self, and_true, true_and, false_and, and_false, ite_self, not_true_eq_false, not_false_eq_true, reduceIte, Nat.reduceEqDiff, ab_I, ab_L, ab_R, ao_I, ao_L, ao_R, gL_sL, gI_sI, gR_sR, gI_sL, gI_sR, gL_sI, gL_sR, gR_sI, gR_sL, g_83, wX, b0.1, b0.2, Int.toNat_natCast, ew, T332, c, t]
      rfl
theorem L398h {x1 x2 s : Int} {v : Option MV} {Q : MS → Prop} : ∀ (j : Nat) (σ : MS) (L : List Int), j ≤ 16 → otR σ L → (L ++ (hxL w j ++ R)).length ≤ 24000 → (∀ τ, etR σ L (hxL w j) τ → okc (RR (lkB tb398) (B398_156, [some (mR (some 80)), some (mI x1), some (mI x2), some (mL w), none, some (mI s), none, none], [], τ)) v Q) → okc (RR (lkB tb398) (B398_72, [some (mR (some 80)), some (mI x1), some (mI x2), some (mL w), none, some (mI s), some (mI (4 * (j : Int) - 4)), none], [], σ)) v Q := by
  intro j
  induction j with
  | zero =>
    intro σ L _ h _ k
    rw [e398_72, if_pos (by omega)]
    refine okc_q (ls := [some (mR (some 80)), some (mI x1), some (mI x2), some (mL w), none, some (mI s), none, none]) (by repeat (first | exact lq_nil | refine lq_cons (Or.inr rfl) ?_ | refine lq_cons (Or.inl rfl) ?_)) ?_
    exact k σ (etR_0 h)
  | succ j ih =>
    intro σ L hj h hl k
    have ej : 4 * ((j + 1 : Nat) : Int) - 4 = ((4 * j : Nat) : Int) := by omega
    have hl' : (L ++ ([hxD w j] ++ (hxL w j ++ R))).length ≤ 24000 := hl
    have e1 : w32 (((4 * j : Nat) : Int) + (-4)) = 4 * (j : Int) - 4 := by
      rw [w32_i (by omega) (by omega)]
      omega
    have b := hx_9 w j
    have bd : -128 ≤ hxD w j ∧ hxD w j < 128 := by
      unfold hxD
      split <;> omega
    have e9 : RR (lkB tb398) (B398_72, [some (mR (some 80)), some (mI x1), some (mI x2), some (mL w), none, some (mI s), some (mI ((4 * j : Nat) : Int)), none], [], σ) = RR (lkB tb398) (B398_111, [some (mR (some 80)), some (mI x1), some (mI x2), some (mL w), none, some (mI s), some (mI ((4 * j : Nat) : Int)), some (mI ((w.toNat / 16 ^ j % 16 : Nat) : Int))], [mI (hxD w j), mR (some 80)], σ) := by
      unfold hxD
      rw [e398_72, if_neg (by omega), hx_r w (by omega)]
      generalize w.toNat / 16 ^ j % 16 = d at b
      by_cases c : d < 10
      · rw [if_neg (by omega), if_pos c, w32_i (by omega) (by omega)]
      · rw [if_pos (by omega), if_neg c, w32_i (x := 97 + (d : Int)) (by omega) (by omega), w32_i (by omega) (by omega), show 97 + (d : Int) - 10 = 87 + (d : Int) by omega]
    rw [ej, e9, e398_111]
    refine okc_b (T390 h (app_l1 hl') bd) fun τ z => ?_
    simp only [Option.bind_some, Option.toList_some, Option.toList_none, List.cons_append, List.nil_append]
    rw [e398_114, e1]
    refine okc_q (ls := [some (mR (some 80)), some (mI x1), some (mI x2), some (mL w), none, some (mI s), some (mI (4 * (j : Int) - 4)), none]) (by repeat (first | exact lq_nil | refine lq_cons (Or.inr rfl) ?_ | refine lq_cons (Or.inl rfl) ?_)) ?_
    exact ih τ (L ++ [hxD w j]) (by omega) z.1 (app_len hl') fun υ y => k υ (etR_t (M := [hxD w j]) z y)
theorem L398 (hX : X < 8) (hn : n ≤ 200) : ∀ (f i : Nat) (σ : MS) (L : List Int), n ≤ i + f → i ≤ 300 → gI σ 84 X = (n : Int) → (∀ j, gL σ 83 (200 * X + j) = p j) → otR σ L → (L ++ prA p n f i).length ≤ 24000 → okc (RR (lkB tb398) (B398_25, [some (mR (some 80)), some (mI (X : Int)), some (mI (i : Int)), none, none, none, none, none], [], σ)) (some (mI ((L ++ prA p n f i).length : Int))) (etR σ L (prA p n f i)) := by
  intro f
  induction f with
  | zero =>
    intro i σ L hf _ h84 _ h _
    rw [e398_25, if_pos (by rw [g_84]; omega), Int.toNat_natCast, h84, if_pos (by omega), h.1]
    unfold prA
    rw [List.append_nil]
    exact okc_s (etR_0 h)
  | succ f ih =>
    intro i σ L hf hi3 h84 hp h hl
    by_cases c : i < n
    · have ew : w32 (w32 (200 * (X : Int)) + (i : Int)) = ((200 * X + i : Nat) : Int) := by
        rw [w32_i (x := 200 * (X : Int)) (by omega) (by omega), w32_i (by omega) (by omega)]
        omega
      have t345 := T345x (σ := σ) hX h84 hn hp c
      rw [e398_25, if_pos (by rw [g_84]; omega), Int.toNat_natCast, h84, if_neg (by omega), ew, if_pos (by rw [g_83]; omega), t345, Int.toNat_natCast, hp i]
      simp only [Option.bind_some, Option.toList_some, Option.toList_none, List.cons_append, List.nil_append]
      unfold prA at hl ⊢
      rw [if_pos c] at hl ⊢
      have tl : ∀ (s : Nat) (υ : MS) (L' : List Int), (spn p n i = s) → qR σ υ → otR υ L' → (L' ++ ([10] ++ prA p n f (i + (if spn p n i = 2 then 2 else 1)))).length ≤ 24000 → okc (RR (lkB tb398) (B398_156, [some (mR (some 80)), some (mI (X : Int)), some (mI (i : Int)), some (mL (p i)), none, some (mI (s : Int)), none, none], [], υ)) (some (mI ((L' ++ ([10] ++ prA p n f (i + (if spn p n i = 2 then 2 else 1)))).length : Int))) (etR υ L' ([10] ++ prA p n f (i + (if spn p n i = 2 then 2 else 1)))) := fun s υ L' es qυ h' hl' => by
        rw [e398_156]
        refine okc_b (T390 h' (app_l1 hl') (by decide)) fun τ z => ?_
        simp only [Option.bind_some, Option.toList_some, Option.toList_none, List.cons_append, List.nil_append]
        have e79 : RR (lkB tb398) (B398_162, [some (mR (some 80)), some (mI (X : Int)), some (mI (i : Int)), some (mL (p i)), none, some (mI (s : Int)), none, none], [], τ) = RR (lkB tb398) (B398_25, [some (mR (some 80)), some (mI (X : Int)), some (mI ((i + (if spn p n i = 2 then 2 else 1) : Nat) : Int)), some (mL (p i)), none, some (mI (s : Int)), none, none], [], τ) := by
          rw [e398_162, es]
          by_cases q : s = 2
          · have e2 : w32 ((i : Int) + 2) = ((i + 2 : Nat) : Int) := by
              rw [w32_i (by omega) (by omega)]
              omega
            rw [if_neg (show ¬ ¬ (s : Int) = 2 by omega), if_pos q, e398_174, e2]
          · have e2 : w32 ((i : Int) + 1) = ((i + 1 : Nat) : Int) := by
              rw [w32_i (by omega) (by omega)]
              omega
            rw [if_pos (show ¬ (s : Int) = 2 by omega), if_neg q, e398_174, e2]
        have qτ := qR_t qυ z.2
        have s1 : 1 ≤ (if spn p n i = 2 then 2 else 1) ∧ (if spn p n i = 2 then 2 else 1) ≤ 2 := by
          split <;> omega
        rw [e79]
        refine okc_q (ls := [some (mR (some 80)), some (mI (X : Int)), some (mI ((i + (if spn p n i = 2 then 2 else 1) : Nat) : Int)), none, none, none, none, none]) (by repeat (first | exact lq_nil | refine lq_cons (Or.inr rfl) ?_ | refine lq_cons (Or.inl rfl) ?_)) ?_
        have r := ih (i + (if spn p n i = 2 then 2 else 1)) τ (L' ++ [10]) (by omega) (by omega) ((qτ.1 84 X (by omega)).trans h84) (fun j => (congrFun (congrFun (congrArg Prod.fst qτ.2) 83) (200 * X + j)).trans (hp j)) z.1 (app_len hl')
        rw [List.append_assoc] at r
        exact okc_m r fun υ y => etR_t (M := [10]) z y
      rw [e398_54]
      by_cases s0 : spn p n i = 0
      · rw [if_neg (show ¬ ¬ ((spn p n i : Nat) : Int) = 0 by omega)]
        have n1 : ¬ spn p n i = 1 := by omega
        have n2 : ¬ spn p n i = 2 := by omega
        rw [if_neg n1, if_neg n2] at hl ⊢
        rw [if_neg n2] at tl
        unfold prB at hl ⊢
        rw [List.append_assoc] at hl ⊢
        rw [if_neg n2] at hl ⊢
        refine okc_b (T391 h (by decide) (app_l1 hl)) fun τ z => ?_
        simp only [Option.bind_some, Option.toList_some, Option.toList_none, List.cons_append, List.nil_append]
        rw [e398_68]
        refine L398h (R := [10] ++ prA p n f (i + 1)) 16 τ _ (Nat.le_refl _) z.1 (app_len hl) fun υ y => ?_
        have r := tl _ υ _ rfl (qR_t z.2 y.2) y.1 (app_len (app_len hl))
        rw [List.append_assoc, List.append_assoc] at r
        exact okc_m r fun κ q => etR_t z (etR_t y q)
      · rw [if_pos (show ¬ ((spn p n i : Nat) : Int) = 0 by omega)]
        rcases spn_in (p := p) s0 c with ⟨i1, ⟨s1, ok⟩ | ⟨s2, i2, ok⟩⟩
        · have n2 : ¬ spn p n i = 2 := by omega
          rw [if_pos s1, if_neg n2] at hl ⊢
          rw [if_neg n2] at tl
          rw [if_pos (show ¬ ((spn p n i : Nat) : Int) = 2 by omega)]
          refine okc_b (T400 h ok (app_l1 hl)) fun τ z => ?_
          simp only [Option.bind_some, Option.toList_some, Option.toList_none, List.cons_append, List.nil_append]
          have r := tl _ τ _ rfl z.2 z.1 (app_len hl)
          rw [List.append_assoc] at r
          exact okc_m r fun κ q => etR_t z q
        · have n1 : ¬ spn p n i = 1 := by omega
          have b83 : 0 ≤ ((200 * X + (i + 1) : Nat) : Int) ∧ ((200 * X + (i + 1) : Nat) : Int) < 1600 := by omega
          have ew1 : w32 (w32 (w32 (200 * (X : Int)) + (i : Int)) + 1) = ((200 * X + (i + 1) : Nat) : Int) := by
            rw [ew, w32_i (by omega) (by omega)]
            omega
          rw [if_neg n1, if_pos s2, if_pos s2] at hl ⊢
          rw [if_pos s2] at tl
          rw [if_neg (show ¬ ¬ ((spn p n i : Nat) : Int) = 2 by omega), ew1, if_pos (by rw [g_83]; exact b83), Int.toNat_natCast, hp (i + 1)]
          refine okc_b (T399 h ok (app_l1 hl)) fun τ z => ?_
          simp only [Option.bind_some, Option.toList_some, Option.toList_none, List.cons_append, List.nil_append]
          rw [e398_148]
          have r := tl _ τ _ rfl z.2 z.1 (app_len hl)
          rw [List.append_assoc] at r
          exact okc_m r fun κ q => etR_t z q
    · unfold prA
      rw [e398_25, if_pos (by rw [g_84]; omega), Int.toNat_natCast, h84, if_pos (by omega), h.1, if_neg c, List.append_nil]
      exact okc_s (etR_0 h)
theorem otR_z : otR (sI σ 80 3 0) [] := ⟨by rw [gI_sI, if_pos ⟨rfl, rfl⟩]; rfl, fun i hi => absurd hi (Nat.not_lt_zero _)⟩
theorem qR_z : qR σ (sI σ 80 3 x) := ⟨fun k s z => by rw [gI_sI, if_neg (fun y => z (Or.inr (Or.inr y)))], rfl⟩
/-- print: the reference -/
theorem T398 (hX : X < 8) (h84 : gI σ 84 X = (n : Int)) (hn : n ≤ 200) (n0 : 0 < n) : okc (MM 398 [mR (some 80), mI (X : Int)] σ) (some (mI ((prA (fun j => gL σ 83 (200 * X + j)) n n 0).length : Int))) (fun τ => otR τ (prA (fun j => gL σ 83 (200 * X + j)) n n 0) ∧ qR σ τ) := by
  have b := prA_l (p := fun j => gL σ 83 (200 * X + j)) (n := n) n 0
  rw [M398, e398_0, T331 hX]
  simp only [Option.bind_some, Option.toList_some, Option.toList_none, List.cons_append, List.nil_append]
  rw [e398_4, if_neg n10, if_pos (by rw [g_84]; omega), Int.toNat_natCast, h84, if_pos (by omega)]
  exact okc_m (L398 (p := fun j => gL σ 83 (200 * X + j)) hX hn n 0 (sI σ 80 3 0) [] (by omega) (by omega) (by rw [gI_sI, if_neg (by omega)]; exact h84) (fun j => rfl) otR_z (by rw [List.nil_append]; omega)) fun τ z => ⟨z.1, qR_t qR_z z.2⟩
theorem T398n (h : (x < 0 ∨ 8 ≤ x) ∨ (∃ X : Nat, X < 8 ∧ x = (X : Int) ∧ gI σ 84 X = 0)) : MM 398 [mR (some 80), mI x] σ = some (some (mI (-1)), σ) := by
  rw [M398, e398_0]
  rcases h with h | ⟨X, h1, h2, h3⟩
  · rw [T331n h]
    simp only [Option.bind_some, Option.toList_some, Option.toList_none, List.cons_append, List.nil_append]
    rw [e398_4, if_pos rfl]
  · rw [h2, T331 h1]
    simp only [Option.bind_some, Option.toList_some, Option.toList_none, List.cons_append, List.nil_append]
    rw [e398_4, if_neg n10, if_pos (by rw [g_84]; omega), Int.toNat_natCast, h3, if_neg (fun z => z rfl)]
end PRT4
