/-! ===== the class's NARROWED: what is so of numbers ===== -/
section CNA
variable {x y n : N6} {c : Int} {d : B64} {is : Bool}
theorem bmx_l (a b : B64) : a.toNat ≤ (bmax a b).toNat := by rw [bmax_toNat]; omega
theorem bmn_l (a b : B64) : (bmin a b).toNat ≤ a.toNat := by rw [bmin_toNat]; omega
theorem smx_l (a b : B64) : a.toInt ≤ (smax a b).toInt := by rw [smax_toInt]; omega
theorem smn_l (a b : B64) : (smin a b).toInt ≤ a.toInt := by rw [smin_toInt]; omega
theorem by_A (n : N6) : (jA n).toNat ≤ (jA (byB n)).toNat := bmx_l _ _
theorem by_B (n : N6) : (jB (byB n)).toNat ≤ (jB n).toNat := bmn_l _ _
theorem by_C (n : N6) : (jC n).toInt ≤ (jC (byB n)).toInt := smx_l _ _
theorem by_D (n : N6) : (jD (byB n)).toInt ≤ (jD n).toInt := smn_l _ _
theorem t1_A (n : N6) : (jA n).toNat ≤ (jA (td1 n)).toNat := by
  unfold td1
  split
  · exact bmx_l _ _
  · exact Nat.le_refl _
theorem t1_B (n : N6) : (jB (td1 n)).toNat ≤ (jB n).toNat := by
  unfold td1
  split
  · exact bmn_l _ _
  · exact Nat.le_refl _
theorem t1_C (n : N6) : jC (td1 n) = jC n ∧ jD (td1 n) = jD n := by
  unfold td1
  split <;> exact ⟨rfl, rfl⟩
theorem t2_A (n : N6) : jA (td2 n) = jA n ∧ jB (td2 n) = jB n := by
  unfold td2
  split <;> exact ⟨rfl, rfl⟩
theorem t2_C (n : N6) : (jC n).toInt ≤ (jC (td2 n)).toInt ∧ (jD (td2 n)).toInt ≤ (jD n).toInt := by
  unfold td2
  split
  · exact ⟨smx_l _ _, smn_l _ _⟩
  · exact ⟨Int.le_refl _, Int.le_refl _⟩
theorem t_A (n : N6) : (jA n).toNat ≤ (jA (td2 (td1 (byB n)))).toNat := by
  rw [(t2_A _).1]
  exact Nat.le_trans (by_A n) (t1_A _)
theorem t_B (n : N6) : (jB (td2 (td1 (byB n)))).toNat ≤ (jB n).toNat := by
  rw [(t2_A _).2]
  exact Nat.le_trans (t1_B _) (by_B n)
theorem td_A (n : N6) : (jA n).toNat ≤ (jA (tdN n)).toNat := by
  unfold tdN
  split
  · exact Nat.le_trans (t_A n) (by_A (td3 _))
  · exact t_A n
theorem td_B (n : N6) : (jB (tdN n)).toNat ≤ (jB n).toNat := by
  unfold tdN
  split
  · exact Nat.le_trans (by_B (td3 _)) (t_B n)
  · exact t_B n
/-- what is not NOTHING has ranges -/
theorem tdG_AB (h : tdG n) : (jA n).toNat ≤ (jB n).toNat := by
  obtain ⟨-, h, -⟩ := h
  rw [BitVec.lt_def] at h
  have a1 := t_A n
  have a2 := by_A (td3 (td2 (td1 (byB n))))
  have b1 := t_B n
  have b2' := by_B (td3 (td2 (td1 (byB n))))
  have e1 : jA (td3 (td2 (td1 (byB n)))) = jA (td2 (td1 (byB n))) := rfl
  have e2 : jB (td3 (td2 (td1 (byB n)))) = jB (td2 (td1 (byB n))) := rfl
  rw [e1] at a2
  rw [e2] at b2'
  omega
theorem tdG_cst (c : B64) : tdG (cstN c) := by
  have x0 : c ||| 0#64 = c := by simp
  have x1 : ∀ d : B64, 0#64 &&& d = 0#64 := fun d => by simp
  have bm : bmax c c = c := by unfold bmax; split <;> rfl
  have bn : bmin c c = c := by unfold bmin; split <;> rfl
  have sm : smax c c = c := by unfold smax; split <;> rfl
  have sn : smin c c = c := by unfold smin; split <;> rfl
  have b : byB (cstN c) = cstN c := by
    show (c, 0#64, bmax c c, bmin c (c ||| 0#64), smax c (c ||| (0#64 &&& cMin)), smin c (c ||| (0#64 &&& cMax))) = (c, 0#64, c, c, c, c)
    rw [x1, x1, x0, bm, bn, sm, sn]
  have t1 : td1 (cstN c) = cstN c := by
    show (if 0 ≤ c.toInt ∨ c.toInt < 0 then (c, 0#64, bmax c c, bmin c c, c, c) else (c, 0#64, c, c, c, c)) = (c, 0#64, c, c, c, c)
    rw [bm, bn]
    split <;> rfl
  have t2 : td2 (cstN c) = cstN c := by
    show (if (c.toInt < 0 ↔ c.toInt < 0) then (c, 0#64, c, c, smax c c, smin c c) else (c, 0#64, c, c, c, c)) = (c, 0#64, c, c, c, c)
    rw [sm, sn]
    split <;> rfl
  have t3 : td3 (cstN c) = cstN c := by
    show (c ||| (c &&& ~~~ sprd (c ^^^ c)), 0#64 &&& sprd (c ^^^ c), c, c, c, c) = (c, 0#64, c, c, c, c)
    rw [x1]
    have : c ||| (c &&& ~~~ sprd (c ^^^ c)) = c := by
      apply BitVec.eq_of_getLsbD_eq
      intro i hi
      simp only [BitVec.getLsbD_or, BitVec.getLsbD_and]
      cases c.getLsbD i <;> simp
    rw [this]
  unfold tdG
  rw [b, t1, t2, t3, b]
  refine ⟨?_, ?_, ?_⟩
  · show ((c ^^^ c) &&& ~~~ sprd (c ^^^ c)) &&& ~~~ 0#64 = 0#64
    rw [BitVec.xor_self]
    simp
  · show ¬ c < c
    rw [BitVec.lt_def]
    omega
  · show ¬ c.toInt < c.toInt
    omega
/-- not decided against a constant -/
def ndX (c : Int) (x : N6) (d : B64) : Prop :=
  (c = 32 ∨ c = 176 → (jA x).toNat ≤ d.toNat ∧ d.toNat < (jB x).toNat) ∧ (c = 48 ∨ c = 160 → (jA x).toNat < d.toNat ∧ d.toNat ≤ (jB x).toNat)
  ∧ (c = 96 ∨ c = 208 → (jC x).toInt ≤ d.toInt ∧ d.toInt < (jD x).toInt) ∧ (c = 112 ∨ c = 192 → (jC x).toInt < d.toInt ∧ d.toInt ≤ (jD x).toInt)
theorem two_if {P Q : Prop} {dp : Decidable P} {dq : Decidable Q} (h : (@ite Int P dp 1 (@ite Int Q dq 0 (-1))) = -1) : ¬ P ∧ ¬ Q := by
  by_cases p : P
  · rw [if_pos p] at h
    exact absurd h (by decide)
  · rw [if_neg p] at h
    by_cases q : Q
    · rw [if_pos q] at h
      exact absurd h (by decide)
    · exact ⟨p, q⟩
theorem nd_w (h : decX c x (cstN d) = -1) : ndX c x d := by
  have ca : jA (cstN d) = d := rfl
  have cb : jB (cstN d) = d := rfl
  have cc : jC (cstN d) = d := rfl
  have cd : jD (cstN d) = d := rfl
  refine ⟨fun z => ?_, fun z => ?_, fun z => ?_, fun z => ?_⟩
  · rcases z with rfl | rfl
    · rw [dx_32] at h
      unfold aboN at h
      obtain ⟨a, b⟩ := two_if h
      rw [cb, BitVec.lt_def] at a
      rw [ca, BitVec.lt_def] at b
      omega
    · rw [dx_176] at h
      unfold nblN at h
      obtain ⟨a, b⟩ := two_if h
      rw [ca, BitVec.lt_def] at a
      rw [cb, BitVec.lt_def] at b
      omega
  · rcases z with rfl | rfl
    · rw [dx_48] at h
      unfold nblN at h
      obtain ⟨a, b⟩ := two_if h
      rw [cb, BitVec.lt_def] at a
      rw [ca, BitVec.lt_def] at b
      omega
    · rw [dx_160] at h
      unfold aboN at h
      obtain ⟨a, b⟩ := two_if h
      rw [ca, BitVec.lt_def] at a
      rw [cb, BitVec.lt_def] at b
      omega
  · rcases z with rfl | rfl
    · rw [dx_96] at h
      unfold aboS at h
      obtain ⟨a, b⟩ := two_if h
      rw [cd] at a
      rw [cc] at b
      omega
    · rw [dx_208] at h
      unfold nblS at h
      obtain ⟨a, b⟩ := two_if h
      rw [cc] at a
      rw [cd] at b
      omega
  · rcases z with rfl | rfl
    · rw [dx_112] at h
      unfold nblS at h
      obtain ⟨a, b⟩ := two_if h
      rw [cd] at a
      rw [cc] at b
      omega
    · rw [dx_192] at h
      unfold aboS at h
      obtain ⟨a, b⟩ := two_if h
      rw [cc] at a
      rw [cd] at b
      omega
theorem cut_A (hA : (jA x).toNat < 4294967296) (hB : (jB x).toNat < 4294967296) : (jA x).toNat ≤ (jA (cutT x)).toNat ∧ (jB (cutT x)).toNat ≤ (jB x).toNat := by
  have s0 : ∀ v : B64, v.toNat < 4294967296 → v >>> 32 = 0#64 := fun v hv => by
    apply BitVec.eq_of_toNat_eq
    rw [BitVec.toNat_ushiftRight, Nat.shiftRight_eq_div_pow]
    show v.toNat / 4294967296 = 0
    exact Nat.div_eq_of_lt hv
  have e : jA x >>> 32 = jB x >>> 32 := by rw [s0 _ hA, s0 _ hB]
  have a : jA (cutN x) = jA x := (if_pos e).trans (lo_m hA)
  have b : jB (cutN x) = jB x := (if_pos e).trans (lo_m hB)
  refine ⟨?_, ?_⟩
  · have := td_A (cutN x)
    rwa [a] at this
  · have := td_B (cutN x)
    rwa [b] at this
theorem nd_n (hs : ¬ isSgn c) (hA : (jA x).toNat < 4294967296) (hB : (jB x).toNat < 4294967296) (h : decX c (cutT x) (cstN d) = -1) : ndX c x d := by
  obtain ⟨h1, h2, -, -⟩ := nd_w h
  have ab := cut_A hA hB
  refine ⟨fun z => ?_, fun z => ?_, fun z => ?_, fun z => ?_⟩
  · have := h1 z
    omega
  · have := h2 z
    omega
  · exact absurd (show isSgn c by omega) hs
  · exact absurd (show isSgn c by omega) hs
theorem sub1_nat {a : B64} (h : 1 ≤ a.toNat) : (a - 1#64).toNat = a.toNat - 1 := by
  have := a.isLt
  rw [BitVec.toNat_sub]
  show (2 ^ 64 - 1 + a.toNat) % 2 ^ 64 = _
  omega
theorem add1_nat {a : B64} (h : a.toNat < 18446744073709551615) : (a + 1#64).toNat = a.toNat + 1 := by
  rw [BitVec.toNat_add]
  show (a.toNat + 1) % 2 ^ 64 = _
  omega
theorem sub1_int {a : B64} (h : -9223372036854775808 < a.toInt) : (a - 1#64).toInt = a.toInt - 1 := by
  have := toInt_rng a
  rw [BitVec.toInt_sub]
  show (a.toInt - 1).bmod (2 ^ 64) = _
  exact Int.bmod_eq_of_le (by omega) (by omega)
theorem add1_int {a : B64} (h : a.toInt < 9223372036854775807) : (a + 1#64).toInt = a.toInt + 1 := by
  have := toInt_rng a
  rw [BitVec.toInt_add]
  show (a.toInt + 1).bmod (2 ^ 64) = _
  exact Int.bmod_eq_of_le (by omega) (by omega)
theorem bmx_r {a b : B64} (h : b.toNat ≤ a.toNat) : bmax a b = a := by
  unfold bmax
  rw [if_neg (by rw [BitVec.lt_def]; omega)]
theorem bmn_r {a b : B64} (h : a.toNat ≤ b.toNat) : bmin a b = a := by
  apply BitVec.eq_of_toNat_eq
  rw [bmin_toNat]
  omega
theorem smx_r {a b : B64} (h : b.toInt ≤ a.toInt) : smax a b = a := if_pos h
theorem smn_r {a b : B64} (h : a.toInt ≤ b.toInt) : smin a b = a := if_pos h
/-- a constant stays -/
theorem nar_y (hc : isCmp c) (h : ndX c x d) : (narN c is x (cstN d)).2 = cstN d ∨ (narN c is x (cstN d)).2 = (narN c is x (cstN d)).1 := by
  obtain ⟨h1, h2, h3, h4⟩ := h
  have ld : d.toNat < 18446744073709551616 := d.isLt
  have lb : (jB x).toNat < 18446744073709551616 := (jB x).isLt
  have rd := toInt_rng d
  have rC := toInt_rng (jC x)
  have rD := toInt_rng (jD x)
  have s0 : ∀ a : B64, a - 0#64 = a := fun a => by simp
  have a0 : ∀ a : B64, a + 0#64 = a := fun a => by simp
  have kb : ∀ z : B64, d.toNat ≤ z.toNat → ((d, 0#64, d, bmin d z, d, d) : N6) = cstN d := fun z h => by rw [bmn_r h]; rfl
  have ka : ∀ z : B64, z.toNat ≤ d.toNat → ((d, 0#64, bmax d z, d, d, d) : N6) = cstN d := fun z h => by rw [bmx_r h]; rfl
  have kd : ∀ z : B64, d.toInt ≤ z.toInt → ((d, 0#64, d, d, d, smin d z) : N6) = cstN d := fun z h => by rw [smn_r h]; rfl
  have kc : ∀ z : B64, z.toInt ≤ d.toInt → ((d, 0#64, d, d, smax d z, d) : N6) = cstN d := fun z h => by rw [smx_r h]; rfl
  rcases hc with rfl | rfl | rfl | rfl | rfl | rfl | rfl | rfl | rfl | rfl | rfl
  · -- 16
    unfold narN
    rw [if_pos (Or.inl rfl)]
    cases is with
    | true => exact Or.inr rfl
    | false =>
      left
      show (unlN x (cstN d)).2 = cstN d
      have cy : isC (cstN d) := rfl
      unfold unlN
      by_cases cx : isC x
      · rw [if_pos ⟨fun _ => cy, fun _ => cx⟩]
      · rw [if_neg (fun z => cx (z.mpr cy)), if_neg cx]
  · have h1 := h1 (Or.inl rfl)
    left
    cases is with
    | true => exact kb _ (by show d.toNat ≤ (jB x - 1#64).toNat; rw [sub1_nat (by omega)]; omega)
    | false => exact ka _ (by show (jA x + 0#64).toNat ≤ d.toNat; rw [a0]; omega)
  · have h2 := h2 (Or.inl rfl)
    left
    cases is with
    | true => exact kb _ (by show d.toNat ≤ (jB x - 0#64).toNat; rw [s0]; omega)
    | false => exact ka _ (by show (jA x + 1#64).toNat ≤ d.toNat; rw [add1_nat (by omega)]; omega)
  · left
    unfold narN
    rw [if_neg (by decide), if_pos rfl]
    split
    · rfl
    · split <;> rfl
  · unfold narN
    rw [if_pos (Or.inr rfl)]
    cases is with
    | false => exact Or.inr rfl
    | true =>
      left
      show (unlN x (cstN d)).2 = cstN d
      have cy : isC (cstN d) := rfl
      unfold unlN
      by_cases cx : isC x
      · rw [if_pos ⟨fun _ => cy, fun _ => cx⟩]
      · rw [if_neg (fun z => cx (z.mpr cy)), if_neg cx]
  · have h3 := h3 (Or.inl rfl)
    left
    cases is with
    | true => exact kd _ (by show d.toInt ≤ (jD x - 1#64).toInt; rw [sub1_int (by omega)]; omega)
    | false => exact kc _ (by show (jC x + 0#64).toInt ≤ d.toInt; rw [a0]; omega)
  · have h4 := h4 (Or.inl rfl)
    left
    cases is with
    | true => exact kd _ (by show d.toInt ≤ (jD x - 0#64).toInt; rw [s0]; omega)
    | false => exact kc _ (by show (jC x + 1#64).toInt ≤ d.toInt; rw [add1_int (by omega)]; omega)
  · have h2 := h2 (Or.inr rfl)
    left
    cases is with
    | true => exact ka _ (by show (jA x + 1#64).toNat ≤ d.toNat; rw [add1_nat (by omega)]; omega)
    | false => exact kb _ (by show d.toNat ≤ (jB x - 0#64).toNat; rw [s0]; omega)
  · have h1 := h1 (Or.inr rfl)
    left
    cases is with
    | true => exact ka _ (by show (jA x + 0#64).toNat ≤ d.toNat; rw [a0]; omega)
    | false => exact kb _ (by show d.toNat ≤ (jB x - 1#64).toNat; rw [sub1_nat (by omega)]; omega)
  · have h4 := h4 (Or.inr rfl)
    left
    cases is with
    | true => exact kc _ (by show (jC x + 1#64).toInt ≤ d.toInt; rw [add1_int (by omega)]; omega)
    | false => exact kd _ (by show d.toInt ≤ (jD x - 0#64).toInt; rw [s0]; omega)
  · have h3 := h3 (Or.inr rfl)
    left
    cases is with
    | true => exact kc _ (by show (jC x + 0#64).toInt ≤ d.toInt; rw [a0]; omega)
    | false => exact kd _ (by show d.toInt ≤ (jD x - 1#64).toInt; rw [sub1_int (by omega)]; omega)
/-- ranges only shrink, in the orders without sign -/
theorem nar_AB (hc : c = 32 ∨ c = 48 ∨ c = 160 ∨ c = 176) : (jA x).toNat ≤ (jA (narN c is x y).1).toNat ∧ (jB (narN c is x y).1).toNat ≤ (jB x).toNat := by
  rcases hc with rfl | rfl | rfl | rfl
  · cases is with
    | true => exact ⟨bmx_l _ _, Nat.le_refl _⟩
    | false => exact ⟨Nat.le_refl _, bmn_l _ _⟩
  · cases is with
    | true => exact ⟨bmx_l _ _, Nat.le_refl _⟩
    | false => exact ⟨Nat.le_refl _, bmn_l _ _⟩
  · cases is with
    | true => exact ⟨Nat.le_refl _, bmn_l _ _⟩
    | false => exact ⟨bmx_l _ _, Nat.le_refl _⟩
  · cases is with
    | true => exact ⟨Nat.le_refl _, bmn_l _ _⟩
    | false => exact ⟨bmx_l _ _, Nat.le_refl _⟩
/-- a constant on the right need not be looked at -/
theorem nar_G (hc : isCmp c) (h : ndX c x d ∨ ((jB x).toNat < (jA x).toNat ∧ ¬ isSgn c)) : (tdG (narN c is x (cstN d)).1 ∧ tdG (narN c is x (cstN d)).2) ↔ tdG (narN c is x (cstN d)).1 := by
  refine ⟨fun z => z.1, fun z => ⟨z, ?_⟩⟩
  rcases h with h | ⟨h, hs⟩
  · rcases nar_y (is := is) hc h with e | e
    · rw [e]
      exact tdG_cst d
    · rw [e]
      exact z
  · by_cases cc : c = 32 ∨ c = 48 ∨ c = 160 ∨ c = 176
    · have := nar_AB (is := is) (x := x) (y := cstN d) cc
      have := tdG_AB z
      omega
    · have c3 : c = 16 ∨ c = 64 ∨ c = 80 := by omega
      have nd : ndX c x d := ⟨fun q => by omega, fun q => by omega, fun q => absurd (show isSgn c by omega) hs, fun q => absurd (show isSgn c by omega) hs⟩
      rcases nar_y (is := is) hc nd with e | e
      · rw [e]
        exact tdG_cst d
      · rw [e]
        exact z
/-- the class takes the bits away as well -/
def cl64 (x y : N6) : N6 := (jV x &&& ~~~ jV y, jM x &&& ~~~ jV y, jA x, jB x, jC x, jD x)
def pu64 (x y : N6) : N6 := (jV x, jM x &&& ~~~ jV y, jA x, jB x, jC x, jD x)
theorem and_not {a b : B64} (h : a &&& b = 0#64) : a &&& ~~~ b = a := by
  apply BitVec.eq_of_getLsbD_eq
  intro i hi
  have := congrArg (fun z => BitVec.getLsbD z i) h
  simp only [BitVec.getLsbD_and, BitVec.getLsbD_zero] at this
  rw [BitVec.getLsbD_and, BitVec.getLsbD_not]
  cases h1 : a.getLsbD i <;> cases h2 : b.getLsbD i <;> simp_all
theorem td_V (n : N6) {i : Nat} (h : (jV n).getLsbD i = true) : (jV (tdN n)).getLsbD i = true := by
  have v1 : jV (td1 (byB n)) = jV n := by
    unfold td1
    split <;> rfl
  have v2 : jV (td2 (td1 (byB n))) = jV n := by
    unfold td2
    split
    · exact v1
    · exact v1
  unfold tdN
  split
  · show (jV (td2 (td1 (byB n))) ||| _).getLsbD i = true
    rw [BitVec.getLsbD_or, v2, h]
    rfl
  · rw [v2]
    exact h
theorem lo_bit {v : B64} (h : v.toNat < 4294967296) {i : Nat} (hb : v.getLsbD i = true) : i < 32 := by
  refine Classical.byContradiction fun z => ?_
  have : v.toNat.testBit i = false := Nat.testBit_lt_two_pow (Nat.lt_of_lt_of_le h (show 2 ^ 32 ≤ 2 ^ i from Nat.pow_le_pow_right (by decide) (by omega)))
  rw [BitVec.getLsbD] at hb
  rw [this] at hb
  cases hb
theorem dis_n (hx : lowA x) (hB : (jB x).toNat < 4294967296) (h : jV (cutT x) &&& jV (cutT y) = 0#64) : jV x &&& jV y = 0#64 ∨ (jB x).toNat < (jA x).toNat := by
  by_cases ab : (jB x).toNat < (jA x).toNat
  · exact Or.inr ab
  · left
    have hx : ¬ jA x < jV x := hx
    rw [BitVec.lt_def] at hx
    have vl : (jV x).toNat < 4294967296 := by omega
    apply BitVec.eq_of_getLsbD_eq
    intro i hi
    rw [BitVec.getLsbD_zero]
    refine Classical.byContradiction fun z => ?_
    have z : (jV x &&& jV y).getLsbD i = true := by simpa using z
    rw [BitVec.getLsbD_and, Bool.and_eq_true] at z
    have i32 := lo_bit vl z.1
    have cut : ∀ m : N6, (jV m).getLsbD i = true → (jV (cutT m)).getLsbD i = true := fun m hm => by
      refine td_V (cutN m) ?_
      show (jV m &&& cF).getLsbD i = true
      rw [BitVec.getLsbD_and, hm, cF_bit, decide_eq_true i32]
      rfl
    have := congrArg (fun z => BitVec.getLsbD z i) h
    simp only [BitVec.getLsbD_and, BitVec.getLsbD_zero] at this
    rw [cut x z.1, cut y z.2] at this
    cases this
theorem cl_pu (h : jV x &&& jV y = 0#64 ∨ (jB x).toNat < (jA x).toNat) : (tdG (cl64 x y) ↔ tdG (pu64 x y)) ∧ (tdG (pu64 x y) → tdN (cl64 x y) = tdN (pu64 x y)) := by
  by_cases d : jV x &&& jV y = 0#64
  · have e : cl64 x y = pu64 x y := by
      unfold cl64 pu64
      rw [and_not d]
    rw [e]
    exact ⟨Iff.rfl, fun _ => rfl⟩
  · have ab := h.resolve_left d
    have n1 : ¬ tdG (cl64 x y) := fun z => by
      have := tdG_AB z
      have : (jA x).toNat ≤ (jB x).toNat := this
      omega
    have n2 : ¬ tdG (pu64 x y) := fun z => by
      have := tdG_AB z
      have : (jA x).toNat ≤ (jB x).toNat := this
      omega
    exact ⟨⟨fun z => absurd z n1, fun z => absurd z n2⟩, fun z => absurd z n2⟩
end CNA
