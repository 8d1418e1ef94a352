/-! ===== print: bytes, texts, numbers come to the OUT, on both sides ===== -/
/-- a text of the table -/
def sxT (j : Nat) : List Int := (strAt j).map fun c : Nat => (c : Int)
/-- digits, the lowest first -/
def dgL : Nat → Nat → List Int
  | 0, _ => []
  | f + 1, v => (48 + ((v % 10 : Nat) : Int)) :: (if v / 10 = 0 then [] else dgL f (v / 10))
/-- a number in decimal -/
def deT (v : Nat) : List Int := (dgL 20 v).reverse
def csX (x : Int) : List Int := if x < 0 then 45 :: deT (-x).toNat else deT x.toNat
def whT (x : Int) : List Int := if x < 0 then 45 :: deT (-x).toNat else 43 :: deT x.toNat
/-- a register: whole or its lower half -/
def rgX (full : Bool) (r : Int) : List Int := (if full = true then 114 else 119) :: deT r.toNat
def otC (σ : MS) (L : List Int) : Prop := gI σ 2 1 = (L.length : Int) ∧ ∀ i, i < L.length → gI σ 3 i = L.getD i 0
def qC (σ τ : MS) : Prop := (∀ k s, ¬ (k = 3 ∨ k = 4 ∨ (k = 2 ∧ s = 1)) → gI τ k s = gI σ k s) ∧ τ.2 = σ.2
def etC (σ : MS) (L M : List Int) (τ : MS) : Prop := otC τ (L ++ M) ∧ qC σ τ
def otR (σ : MS) (L : List Int) : Prop := gI σ 80 3 = (L.length : Int) ∧ ∀ i, i < L.length → gI σ 82 i = L.getD i 0
def qR (σ τ : MS) : Prop := (∀ k s, ¬ (k = 82 ∨ k = 94 ∨ (k = 80 ∧ s = 3)) → gI τ k s = gI σ k s) ∧ τ.2 = σ.2
def etR (σ : MS) (L M : List Int) (τ : MS) : Prop := otR τ (L ++ M) ∧ qR σ τ
section PRT0
variable {σ τ ρ : MS} {L M N : List Int} {i j k n r : Nat} {c x : Int} {w : B64}
theorem app_len (h : (L ++ (M ++ N)).length ≤ n) : (L ++ M ++ N).length ≤ n := by rwa [List.append_assoc]
theorem app_l1 (h : (L ++ (M ++ N)).length ≤ n) : (L ++ M).length ≤ n := by
  rw [List.length_append, List.length_append] at h
  rw [List.length_append]
  omega
theorem st_asc : (List.range stN).all (fun j => (strAt j).all fun c => decide (c < 128)) = true := by decide +kernel
theorem st_a (hj : j < stN) (hi : i < (strAt j).length) : (strAt j).getD i 0 < 128 := by
  have h := List.all_eq_true.mp st_asc j (List.mem_range.mpr hj)
  have g := List.all_eq_true.mp h ((strAt j)[i]) (List.getElem_mem hi)
  rw [List.getD_eq_getElem?_getD, List.getElem?_eq_getElem hi]
  exact of_decide_eq_true g
theorem sx_len : (sxT j).length = (strAt j).length := by
  unfold sxT
  rw [List.length_map]
theorem sx_take (hi : i < (strAt j).length) : (sxT j).take (i + 1) = (sxT j).take i ++ [(((strAt j).getD i 0 : Nat) : Int)] := by
  unfold sxT
  have hl : i < ((strAt j).map fun c : Nat => (c : Int)).length := by rw [List.length_map]; exact hi
  rw [List.take_succ, List.getElem?_eq_getElem hl, List.getElem_map, List.getD_eq_getElem?_getD, List.getElem?_eq_getElem hi]
  rfl
theorem dg_b : ∀ (f v : Nat), ∀ z ∈ dgL f v, 48 ≤ z ∧ z ≤ 57 := by
  intro f
  induction f with
  | zero => intro v z h; cases h
  | succ f ih =>
    intro v z h
    rcases List.mem_cons.mp h with h | h
    · omega
    · by_cases c : v / 10 = 0
      · rw [if_pos c] at h
        cases h
      · rw [if_neg c] at h
        exact ih _ z h
theorem dg_l : ∀ (f v : Nat), (dgL f v).length ≤ f := by
  intro f
  induction f with
  | zero => intro v; exact Nat.le_refl _
  | succ f ih =>
    intro v
    show (_ :: _).length ≤ _
    rw [List.length_cons]
    by_cases c : v / 10 = 0
    · rw [if_pos c]
      exact Nat.succ_le_succ (Nat.zero_le _)
    · rw [if_neg c]
      exact Nat.succ_le_succ (ih _)
theorem de_l (v : Nat) : (deT v).length ≤ 20 := by
  unfold deT
  rw [List.length_reverse]
  exact dg_l 20 v
theorem rev_take (h : i < L.length) : (L.take (i + 1)).reverse = L.getD i 0 :: (L.take i).reverse := by
  rw [List.take_succ, List.getElem?_eq_getElem h, List.reverse_append, List.getD_eq_getElem?_getD, List.getElem?_eq_getElem h]
  rfl
theorem gtD_m (h : i < L.length) : L.getD i 0 ∈ L := by
  rw [List.getD_eq_getElem?_getD, List.getElem?_eq_getElem h]
  exact List.getElem_mem h
theorem getD_a (h : i < (L ++ [c]).length) : (L ++ [c]).getD i 0 = if i = L.length then c else L.getD i 0 := by
  rw [List.length_append, List.length_singleton] at h
  rw [List.getD_eq_getElem?_getD, List.getD_eq_getElem?_getD]
  by_cases e : i = L.length
  · rw [if_pos e, e, List.getElem?_concat_length]
    rfl
  · rw [if_neg e, List.getElem?_append_left (by omega)]
/-- half of it by five -/
theorem d10_c (x : B64) : BitVec.sdiv (lUsh x 1) (iL 5) = BitVec.ofNat 64 (x.toNat / 10) := by
  have e0 : (lUsh x 1).toNat = x.toNat / 2 := by
    show (x >>> 1).toNat = _
    rw [BitVec.toNat_ushiftRight, Nat.shiftRight_eq_div_pow]
  have b : (lUsh x 1).toNat < 2 ^ 63 := by
    rw [e0]
    have := x.isLt
    omega
  have p1 : 0 ≤ (lUsh x 1).toInt := by
    rw [BitVec.toInt_eq_toNat_of_lt (by omega)]
    omega
  rw [sdiv_pos p1 (by decide)]
  apply BitVec.eq_of_toNat_eq
  rw [BitVec.toNat_udiv, e0, BitVec.toNat_ofNat]
  show x.toNat / 2 / 5 = _
  have := x.isLt
  rw [Nat.div_div_eq_div_mul]
  omega
theorem d10_r (x : B64) : x / iL 10 = BitVec.ofNat 64 (x.toNat / 10) := by
  apply BitVec.eq_of_toNat_eq
  rw [BitVec.toNat_udiv, BitVec.toNat_ofNat]
  show x.toNat / 10 = _
  have := x.isLt
  omega
theorem d10_m (x : B64) : x - BitVec.ofNat 64 (x.toNat / 10) * iL 10 = BitVec.ofNat 64 (x.toNat % 10) := by
  apply BitVec.eq_of_toNat_eq
  have h := x.isLt
  rw [BitVec.toNat_sub, BitVec.toNat_mul, BitVec.toNat_ofNat, BitVec.toNat_ofNat]
  show (2 ^ 64 - x.toNat / 10 % 2 ^ 64 * 10 % 2 ^ 64 + x.toNat) % 2 ^ 64 = _
  omega
theorem lI_sm (n : Nat) (h : n < 1000) : lI (BitVec.ofNat 64 n) = (n : Int) := by
  have e : BitVec.ofNat 64 n = iL (n : Int) := (BitVec.ofInt_natCast 64 n).symm
  rw [e]
  exact lIi (by omega) (by omega)
theorem dig_c (x : B64) : w8 (w8 (lI (iL 48 + (x - BitVec.ofNat 64 (x.toNat / 10) * iL 10)))) = 48 + ((x.toNat % 10 : Nat) : Int) := by
  have e : iL 48 + BitVec.ofNat 64 (x.toNat % 10) = BitVec.ofNat 64 (48 + x.toNat % 10) := by
    apply BitVec.eq_of_toNat_eq
    rw [BitVec.toNat_add, BitVec.toNat_ofNat, BitVec.toNat_ofNat]
    show (48 + _) % _ = _
    omega
  rw [d10_m, e, lI_sm _ (by omega), w8_i (x := ((48 + x.toNat % 10 : Nat) : Int)) (by omega) (by omega), w8_i (by omega) (by omega)]
  omega
theorem dig_r (x : B64) : w8 (w8 (w32 (48 + lI (x - iL 10 * BitVec.ofNat 64 (x.toNat / 10))))) = 48 + ((x.toNat % 10 : Nat) : Int) := by
  rw [BitVec.mul_comm, d10_m, lI_sm _ (by omega), w32_i (by omega) (by omega), w8_i (x := 48 + ((x.toNat % 10 : Nat) : Int)) (by omega) (by omega), w8_i (by omega) (by omega)]
theorem z10 (x : B64) : (BitVec.ofNat 64 (x.toNat / 10) = BitVec.ofNat 64 0) = (x.toNat / 10 = 0) := by
  have h := x.isLt
  apply propext
  constructor
  · intro e
    have e2 := congrArg BitVec.toNat e
    rw [BitVec.toNat_ofNat, BitVec.toNat_ofNat] at e2
    omega
  · intro e
    rw [e]
theorem t10 (x : B64) : (BitVec.ofNat 64 (x.toNat / 10)).toNat = x.toNat / 10 := by
  have h := x.isLt
  rw [BitVec.toNat_ofNat]
  omega
theorem qC_r (σ : MS) : qC σ σ := ⟨fun _ _ _ => rfl, rfl⟩
theorem qC_t (h1 : qC σ τ) (h2 : qC τ ρ) : qC σ ρ := ⟨fun k s z => (h2.1 k s z).trans (h1.1 k s z), h2.2.trans h1.2⟩
theorem etC_t (h1 : etC σ L M τ) (h2 : etC τ (L ++ M) N ρ) : etC σ L (M ++ N) ρ := ⟨by rw [← List.append_assoc]; exact h2.1, qC_t h1.2 h2.2⟩
theorem etC_0 (h : otC σ L) : etC σ L [] σ := ⟨by rw [List.append_nil]; exact h, qC_r σ⟩
/-- a byte -/
theorem T92d (h : otC σ L) (hl : (L ++ [c]).length ≤ 8192) (hc : -128 ≤ c ∧ c < 128) : okc (MM 92 [mR (some 2), mI c] σ) none (fun τ => etC σ L [c] τ ∧ ∀ s, gI τ 4 s = gI σ 4 s) := by
  rw [List.length_append, List.length_singleton] at hl
  rw [M92, e92_0, if_neg (show ¬ 8192 ≤ gI σ 2 1 by rw [h.1]; omega), if_pos (by rw [g_3, h.1]; omega), gI_sI, if_neg (by omega), h.1, w32_i (by omega) (by omega), Int.toNat_natCast, w8_i (x := c) hc.1 hc.2, w8_i hc.1 hc.2]
  refine okc_s ⟨⟨⟨?_, fun i hi => ?_⟩, fun k s z => ?_, rfl⟩, fun s => ?_⟩
  · rw [gI_sI, if_pos ⟨rfl, rfl⟩, List.length_append, List.length_singleton]
    omega
  · rw [getD_a hi, gI_sI, if_neg (by omega), gI_sI]
    by_cases e : i = L.length
    · rw [if_pos ⟨rfl, e⟩, if_pos e]
    · rw [List.length_append, List.length_singleton] at hi
      rw [if_neg (fun z => e z.2), if_neg e]
      exact h.2 i (by omega)
  · rw [gI_sI, if_neg (by omega), gI_sI, if_neg (by omega)]
  · rw [gI_sI, if_neg (by omega), gI_sI, if_neg (by omega)]
theorem T92 (h : otC σ L) (hl : (L ++ [c]).length ≤ 8192) (hc : -128 ≤ c ∧ c < 128) : okc (MM 92 [mR (some 2), mI c] σ) none (etC σ L [c]) := okc_m (T92d h hl hc) fun _ z => z.1
theorem L93 (hj : j < stN) : ∀ (f i : Nat) (σ : MS), i + f = (strAt j).length → otC σ (L ++ (sxT j).take i) → (L ++ sxT j).length ≤ 8192 → okc (RR (lkB tb93) (B93_2, [some (mR (some 2)), some (mR (some (strK + j))), some (mI (i : Int))], [], σ)) none (fun τ => otC τ (L ++ sxT j) ∧ qC σ τ) := by
  intro f
  induction f with
  | zero =>
    intro i σ hi h hl
    have ei : i = (strAt j).length := by omega
    rw [e93_2, if_pos (ao_tx hj), T573t hj]
    simp only [Option.bind_some, Option.toList_some, Option.toList_none, List.cons_append, List.nil_append]
    rw [e93_7, if_pos (by omega)]
    refine okc_s ⟨?_, qC_r σ⟩
    rw [ei, ← sx_len, List.take_length] at h
    exact h
  | succ f ih =>
    intro i σ hi h hl
    have hi' : i < (strAt j).length := by omega
    have ha := st_a hj hi'
    rw [e93_2, if_pos (ao_tx hj), T573t hj]
    simp only [Option.bind_some, Option.toList_some, Option.toList_none, List.cons_append, List.nil_append]
    rw [e93_7, if_neg (by omega), if_pos (ao_tx hj), T574t hj hi' (by omega)]
    simp only [Option.bind_some, Option.toList_some, Option.toList_none, List.cons_append, List.nil_append]
    rw [e93_16]
    have hl2 : (L ++ (sxT j).take i ++ [(((strAt j).getD i 0 : Nat) : Int)]).length ≤ 8192 := by
      rw [List.append_assoc, ← sx_take hi', List.length_append, List.length_take, sx_len]
      rw [List.length_append, sx_len] at hl
      omega
    refine okc_b (T92 h hl2 (by omega)) fun τ z => ?_
    simp only [Option.bind_some, Option.toList_some, Option.toList_none, List.cons_append, List.nil_append]
    have e1 : w32 ((i : Int) + 1) = ((i + 1 : Nat) : Int) := by
      have : (strAt j).length ≤ 8192 := by
        rw [List.length_append, sx_len] at hl
        omega
      rw [w32_i (by omega) (by omega)]
      omega
    rw [e93_19, e1]
    have z1 := z.1
    rw [List.append_assoc, ← sx_take hi'] at z1
    exact okc_m (ih (i + 1) τ (by omega) z1 hl) fun υ y => ⟨y.1, qC_t z.2 y.2⟩
/-- a text -/
theorem T93 (h : otC σ L) (hj : j < stN) (hl : (L ++ sxT j).length ≤ 8192) : okc (MM 93 [mR (some 2), mR (some (strK + j))] σ) none (etC σ L (sxT j)) := by
  rw [M93, e93_0]
  exact L93 hj (strAt j).length 0 σ (by omega) (by rw [List.take_zero, List.append_nil]; exact h) hl
theorem qR_r (σ : MS) : qR σ σ := ⟨fun _ _ _ => rfl, rfl⟩
theorem qR_t (h1 : qR σ τ) (h2 : qR τ ρ) : qR σ ρ := ⟨fun k s z => (h2.1 k s z).trans (h1.1 k s z), h2.2.trans h1.2⟩
theorem etR_t (h1 : etR σ L M τ) (h2 : etR τ (L ++ M) N ρ) : etR σ L (M ++ N) ρ := ⟨by rw [← List.append_assoc]; exact h2.1, qR_t h1.2 h2.2⟩
theorem etR_0 (h : otR σ L) : etR σ L [] σ := ⟨by rw [List.append_nil]; exact h, qR_r σ⟩
/-- a byte -/
theorem T390d (h : otR σ L) (hl : (L ++ [c]).length ≤ 24000) (hc : -128 ≤ c ∧ c < 128) : okc (MM 390 [mR (some 80), mI c] σ) none (fun τ => etR σ L [c] τ ∧ ∀ s, gI τ 94 s = gI σ 94 s) := by
  rw [List.length_append, List.length_singleton] at hl
  rw [M390, e390_0, if_pos (by rw [g_82, h.1]; omega), gI_sI, if_neg (by omega), h.1, w32_i (by omega) (by omega), Int.toNat_natCast, w8_i (x := c) hc.1 hc.2, w8_i hc.1 hc.2]
  refine okc_s ⟨⟨⟨?_, fun i hi => ?_⟩, fun k s z => ?_, rfl⟩, fun s => ?_⟩
  · rw [gI_sI, if_pos ⟨rfl, rfl⟩, List.length_append, List.length_singleton]
    omega
  · rw [getD_a hi, gI_sI, if_neg (by omega), gI_sI]
    by_cases e : i = L.length
    · rw [if_pos ⟨rfl, e⟩, if_pos e]
    · rw [List.length_append, List.length_singleton] at hi
      rw [if_neg (fun z => e z.2), if_neg e]
      exact h.2 i (by omega)
  · rw [gI_sI, if_neg (by omega), gI_sI, if_neg (by omega)]
  · rw [gI_sI, if_neg (by omega), gI_sI, if_neg (by omega)]
theorem T390 (h : otR σ L) (hl : (L ++ [c]).length ≤ 24000) (hc : -128 ≤ c ∧ c < 128) : okc (MM 390 [mR (some 80), mI c] σ) none (etR σ L [c]) := okc_m (T390d h hl hc) fun _ z => z.1
theorem L391 (hj : j < stN) : ∀ (f i : Nat) (σ : MS), i + f = (strAt j).length → otR σ (L ++ (sxT j).take i) → (L ++ sxT j).length ≤ 24000 → okc (RR (lkB tb391) (B391_2, [some (mR (some 80)), some (mR (some (strK + j))), some (mI (i : Int))], [], σ)) none (fun τ => otR τ (L ++ sxT j) ∧ qR σ τ) := by
  intro f
  induction f with
  | zero =>
    intro i σ hi h hl
    have ei : i = (strAt j).length := by omega
    rw [e391_2, if_pos (ao_tx hj), T573t hj]
    simp only [Option.bind_some, Option.toList_some, Option.toList_none, List.cons_append, List.nil_append]
    rw [e391_7, if_pos (by omega)]
    refine okc_s ⟨?_, qR_r σ⟩
    rw [ei, ← sx_len, List.take_length] at h
    exact h
  | succ f ih =>
    intro i σ hi h hl
    have hi' : i < (strAt j).length := by omega
    have ha := st_a hj hi'
    rw [e391_2, if_pos (ao_tx hj), T573t hj]
    simp only [Option.bind_some, Option.toList_some, Option.toList_none, List.cons_append, List.nil_append]
    rw [e391_7, if_neg (by omega), if_pos (ao_tx hj), T574t hj hi' (by omega)]
    simp only [Option.bind_some, Option.toList_some, Option.toList_none, List.cons_append, List.nil_append]
    rw [e391_16]
    have hl2 : (L ++ (sxT j).take i ++ [(((strAt j).getD i 0 : Nat) : Int)]).length ≤ 24000 := by
      rw [List.append_assoc, ← sx_take hi', List.length_append, List.length_take, sx_len]
      rw [List.length_append, sx_len] at hl
      omega
    refine okc_b (T390 h hl2 (by omega)) fun τ z => ?_
    simp only [Option.bind_some, Option.toList_some, Option.toList_none, List.cons_append, List.nil_append]
    have e1 : w32 ((i : Int) + 1) = ((i + 1 : Nat) : Int) := by
      have : (strAt j).length ≤ 24000 := by
        rw [List.length_append, sx_len] at hl
        omega
      rw [w32_i (by omega) (by omega)]
      omega
    rw [e391_19, e1]
    have z1 := z.1
    rw [List.append_assoc, ← sx_take hi'] at z1
    exact okc_m (ih (i + 1) τ (by omega) z1 hl) fun υ y => ⟨y.1, qR_t z.2 y.2⟩
/-- a text -/
theorem T391 (h : otR σ L) (hj : j < stN) (hl : (L ++ sxT j).length ≤ 24000) : okc (MM 391 [mR (some 80), mR (some (strK + j))] σ) none (etR σ L (sxT j)) := by
  rw [M391, e391_0]
  exact L391 hj (strAt j).length 0 σ (by omega) (by rw [List.take_zero, List.append_nil]; exact h) hl
end PRT0
