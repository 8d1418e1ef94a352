-- FILE 90.cnar
/-! ===== the class's NARROWED: what is so of numbers ===== -/
section CNA
variable {x y n : N6} {c : Int} {d : B64} {is : Bool}
theorem bmx_l (a b : B64) : a.toNat ≤ (bmax a b).toNat := by rw [bmax_toNat]; omega
theorem bmn_l (a b : B64) : (bmin a b).toNat ≤ a.toNat := by rw [bmin_toNat]; omega
theorem smx_l (a b : B64) : a.toInt ≤ (smax a b).toInt := by rw [smax_toInt]; omega
theorem smn_l (a b : B64) : (smin a b).toInt ≤ a.toInt := by rw [smin_toInt]; omega
theorem by_A (n : N6) : (jA n).toNat ≤ (jA (byB n)).toNat := bmx_l _ _
theorem by_B (n : N6) : (jB (byB n)).toNat ≤ (jB n).toNat := bmn_l _ _
theorem by_C (n : N6) : (jC n).toInt ≤ (jC (byB n)).toInt := smx_l _ _
theorem by_D (n : N6) : (jD (byB n)).toInt ≤ (jD n).toInt := smn_l _ _
theorem t1_A (n : N6) : (jA n).toNat ≤ (jA (td1 n)).toNat := by
  unfold td1
  split
  · exact bmx_l _ _
  · exact Nat.le_refl _
theorem t1_B (n : N6) : (jB (td1 n)).toNat ≤ (jB n).toNat := by
  unfold td1
  split
  · exact bmn_l _ _
  · exact Nat.le_refl _
theorem t1_C (n : N6) : jC (td1 n) = jC n ∧ jD (td1 n) = jD n := by
  unfold td1
  split <;> exact ⟨rfl, rfl⟩
theorem t2_A (n : N6) : jA (td2 n) = jA n ∧ jB (td2 n) = jB n := by
  unfold td2
  split <;> exact ⟨rfl, rfl⟩
theorem t2_C (n : N6) : (jC n).toInt ≤ (jC (td2 n)).toInt ∧ (jD (td2 n)).toInt ≤ (jD n).toInt := by
  unfold td2
  split
  · exact ⟨smx_l _ _, smn_l _ _⟩
  · exact ⟨Int.le_refl _, Int.le_refl _⟩
theorem t_A (n : N6) : (jA n).toNat ≤ (jA (td2 (td1 (byB n)))).toNat := by
  rw [(t2_A _).1]
  exact Nat.le_trans (by_A n) (t1_A _)
theorem t_B (n : N6) : (jB (td2 (td1 (byB n)))).toNat ≤ (jB n).toNat := by
  rw [(t2_A _).2]
  exact Nat.le_trans (t1_B _) (by_B n)
theorem td_A (n : N6) : (jA n).toNat ≤ (jA (tdN n)).toNat := by
  unfold tdN
  split
  · exact Nat.le_trans (t_A n) (by_A (td3 _))
  · exact t_A n
theorem td_B (n : N6) : (jB (tdN n)).toNat ≤ (jB n).toNat := by
  unfold tdN
  split
  · exact Nat.le_trans (by_B (td3 _)) (t_B n)
  · exact t_B n
/-- what is not NOTHING has ranges -/
theorem tdG_AB (h : tdG n) : (jA n).toNat ≤ (jB n).toNat := by
  obtain ⟨-, h, -⟩ := h
  rw [BitVec.lt_def] at h
  have a1 := t_A n
  have a2 := by_A (td3 (td2 (td1 (byB n))))
  have b1 := t_B n
  have b2' := by_B (td3 (td2 (td1 (byB n))))
  have e1 : jA (td3 (td2 (td1 (byB n)))) = jA (td2 (td1 (byB n))) := rfl
  have e2 : jB (td3 (td2 (td1 (byB n)))) = jB (td2 (td1 (byB n))) := rfl
  rw [e1] at a2
  rw [e2] at b2'
  omega
theorem tdG_cst (c : B64) : tdG (cstN c) := by
  have x0 : c ||| 0#64 = c := by simp
  have x1 : ∀ d : B64, 0#64 &&& d = 0#64 := fun d => by simp
  have bm : bmax c c = c := by unfold bmax; split <;> rfl
  have bn : bmin c c = c := by unfold bmin; split <;> rfl
  have sm : smax c c = c := by unfold smax; split <;> rfl
  have sn : smin c c = c := by unfold smin; split <;> rfl
  have b : byB (cstN c) = cstN c := by
    show (c, 0#64, bmax c c, bmin c (c ||| 0#64), smax c (c ||| (0#64 &&& cMin)), smin c (c ||| (0#64 &&& cMax))) = (c, 0#64, c, c, c, c)
    rw [x1, x1, x0, bm, bn, sm, sn]
  have t1 : td1 (cstN c) = cstN c := by
    show (if 0 ≤ c.toInt ∨ c.toInt < 0 then (c, 0#64, bmax c c, bmin c c, c, c) else (c, 0#64, c, c, c, c)) = (c, 0#64, c, c, c, c)
    rw [bm, bn]
    split <;> rfl
  have t2 : td2 (cstN c) = cstN c := by
    show (if (c.toInt < 0 ↔ c.toInt < 0) then (c, 0#64, c, c, smax c c, smin c c) else (c, 0#64, c, c, c, c)) = (c, 0#64, c, c, c, c)
    rw [sm, sn]
    split <;> rfl
  have t3 : td3 (cstN c) = cstN c := by
    show (c ||| (c &&& ~~~ sprd (c ^^^ c)), 0#64 &&& sprd (c ^^^ c), c, c, c, c) = (c, 0#64, c, c, c, c)
    rw [x1]
    have : c ||| (c &&& ~~~ sprd (c ^^^ c)) = c := by
      apply BitVec.eq_of_getLsbD_eq
      intro i hi
      simp only [BitVec.getLsbD_or, BitVec.getLsbD_and]
      cases c.getLsbD i <;> simp
    rw [this]
  unfold tdG
  rw [b, t1, t2, t3, b]
  refine ⟨?_, ?_, ?_⟩
  · show ((c ^^^ c) &&& ~~~ sprd (c ^^^ c)) &&& ~~~ 0#64 = 0#64
    rw [BitVec.xor_self]
    simp
  · show ¬ c < c
    rw [BitVec.lt_def]
    omega
  · show ¬ c.toInt < c.toInt
    omega
/-- not decided against a constant -/
def ndX (c : Int) (x : N6) (d : B64) : Prop :=
  (c = 32 ∨ c = 176 → (jA x).toNat ≤ d.toNat ∧ d.toNat < (jB x).toNat) ∧ (c = 48 ∨ c = 160 → (jA x).toNat < d.toNat ∧ d.toNat ≤ (jB x).toNat)
  ∧ (c = 96 ∨ c = 208 → (jC x).toInt ≤ d.toInt ∧ d.toInt < (jD x).toInt) ∧ (c = 112 ∨ c = 192 → (jC x).toInt < d.toInt ∧ d.toInt ≤ (jD x).toInt)
theorem two_if {P Q : Prop} {dp : Decidable P} {dq : Decidable Q} (h : (@ite Int P dp 1 (@ite Int Q dq 0 (-1))) = -1) : ¬ P ∧ ¬ Q := by
  by_cases p : P
  · rw [if_pos p] at h
    exact absurd h (by decide)
  · rw [if_neg p] at h
    by_cases q : Q
    · rw [if_pos q] at h
      exact absurd h (by decide)
    · exact ⟨p, q⟩
theorem nd_w (h : decX c x (cstN d) = -1) : ndX c x d := by
  have ca : jA (cstN d) = d := rfl
  have cb : jB (cstN d) = d := rfl
  have cc : jC (cstN d) = d := rfl
  have cd : jD (cstN d) = d := rfl
  refine ⟨fun z => ?_, fun z => ?_, fun z => ?_, fun z => ?_⟩
  · rcases z with rfl | rfl
    · rw [dx_32] at h
      unfold aboN at h
      obtain ⟨a, b⟩ := two_if h
      rw [cb, BitVec.lt_def] at a
      rw [ca, BitVec.lt_def] at b
      omega
    · rw [dx_176] at h
      unfold nblN at h
      obtain ⟨a, b⟩ := two_if h
      rw [ca, BitVec.lt_def] at a
      rw [cb, BitVec.lt_def] at b
      omega
  · rcases z with rfl | rfl
    · rw [dx_48] at h
      unfold nblN at h
      obtain ⟨a, b⟩ := two_if h
      rw [cb, BitVec.lt_def] at a
      rw [ca, BitVec.lt_def] at b
      omega
    · rw [dx_160] at h
      unfold aboN at h
      obtain ⟨a, b⟩ := two_if h
      rw [ca, BitVec.lt_def] at a
      rw [cb, BitVec.lt_def] at b
      omega
  · rcases z with rfl | rfl
    · rw [dx_96] at h
      unfold aboS at h
      obtain ⟨a, b⟩ := two_if h
      rw [cd] at a
      rw [cc] at b
      omega
    · rw [dx_208] at h
      unfold nblS at h
      obtain ⟨a, b⟩ := two_if h
      rw [cc] at a
      rw [cd] at b
      omega
  · rcases z with rfl | rfl
    · rw [dx_112] at h
      unfold nblS at h
      obtain ⟨a, b⟩ := two_if h
      rw [cd] at a
      rw [cc] at b
      omega
    · rw [dx_192] at h
      unfold aboS at h
      obtain ⟨a, b⟩ := two_if h
      rw [cc] at a
      rw [cd] at b
      omega
theorem cut_A (hA : (jA x).toNat < 4294967296) (hB : (jB x).toNat < 4294967296) : (jA x).toNat ≤ (jA (cutT x)).toNat ∧ (jB (cutT x)).toNat ≤ (jB x).toNat := by
  have s0 : ∀ v : B64, v.toNat < 4294967296 → v >>> 32 = 0#64 := fun v hv => by
    apply BitVec.eq_of_toNat_eq
    rw [BitVec.toNat_ushiftRight, Nat.shiftRight_eq_div_pow]
    show v.toNat / 4294967296 = 0
    exact Nat.div_eq_of_lt hv
  have e : jA x >>> 32 = jB x >>> 32 := by rw [s0 _ hA, s0 _ hB]
  have a : jA (cutN x) = jA x := (if_pos e).trans (lo_m hA)
  have b : jB (cutN x) = jB x := (if_pos e).trans (lo_m hB)
  refine ⟨?_, ?_⟩
  · have := td_A (cutN x)
    rwa [a] at this
  · have := td_B (cutN x)
    rwa [b] at this
theorem nd_n (hs : ¬ isSgn c) (hA : (jA x).toNat < 4294967296) (hB : (jB x).toNat < 4294967296) (h : decX c (cutT x) (cstN d) = -1) : ndX c x d := by
  obtain ⟨h1, h2, -, -⟩ := nd_w h
  have ab := cut_A hA hB
  refine ⟨fun z => ?_, fun z => ?_, fun z => ?_, fun z => ?_⟩
  · have := h1 z
    omega
  · have := h2 z
    omega
  · exact absurd (show isSgn c by omega) hs
  · exact absurd (show isSgn c by omega) hs
theorem sub1_nat {a : B64} (h : 1 ≤ a.toNat) : (a - 1#64).toNat = a.toNat - 1 := by
  have := a.isLt
  rw [BitVec.toNat_sub]
  show (2 ^ 64 - 1 + a.toNat) % 2 ^ 64 = _
  omega
theorem add1_nat {a : B64} (h : a.toNat < 18446744073709551615) : (a + 1#64).toNat = a.toNat + 1 := by
  rw [BitVec.toNat_add]
  show (a.toNat + 1) % 2 ^ 64 = _
  omega
theorem sub1_int {a : B64} (h : -9223372036854775808 < a.toInt) : (a - 1#64).toInt = a.toInt - 1 := by
  have := toInt_rng a
  rw [BitVec.toInt_sub]
  show (a.toInt - 1).bmod (2 ^ 64) = _
  exact Int.bmod_eq_of_le (by omega) (by omega)
theorem add1_int {a : B64} (h : a.toInt < 9223372036854775807) : (a + 1#64).toInt = a.toInt + 1 := by
  have := toInt_rng a
  rw [BitVec.toInt_add]
  show (a.toInt + 1).bmod (2 ^ 64) = _
  exact Int.bmod_eq_of_le (by omega) (by omega)
theorem bmx_r {a b : B64} (h : b.toNat ≤ a.toNat) : bmax a b = a := by
  unfold bmax
  rw [if_neg (by rw [BitVec.lt_def]; omega)]
theorem bmn_r {a b : B64} (h : a.toNat ≤ b.toNat) : bmin a b = a := by
  apply BitVec.eq_of_toNat_eq
  rw [bmin_toNat]
  omega
theorem smx_r {a b : B64} (h : b.toInt ≤ a.toInt) : smax a b = a := if_pos h
theorem smn_r {a b : B64} (h : a.toInt ≤ b.toInt) : smin a b = a := if_pos h
/-- a constant stays -/
theorem nar_y (hc : isCmp c) (h : ndX c x d) : (narN c is x (cstN d)).2 = cstN d ∨ (narN c is x (cstN d)).2 = (narN c is x (cstN d)).1 := by
  obtain ⟨h1, h2, h3, h4⟩ := h
  have ld : d.toNat < 18446744073709551616 := d.isLt
  have lb : (jB x).toNat < 18446744073709551616 := (jB x).isLt
  have rd := toInt_rng d
  have rC := toInt_rng (jC x)
  have rD := toInt_rng (jD x)
  have s0 : ∀ a : B64, a - 0#64 = a := fun a => by simp
  have a0 : ∀ a : B64, a + 0#64 = a := fun a => by simp
  have kb : ∀ z : B64, d.toNat ≤ z.toNat → ((d, 0#64, d, bmin d z, d, d) : N6) = cstN d := fun z h => by rw [bmn_r h]; rfl
  have ka : ∀ z : B64, z.toNat ≤ d.toNat → ((d, 0#64, bmax d z, d, d, d) : N6) = cstN d := fun z h => by rw [bmx_r h]; rfl
  have kd : ∀ z : B64, d.toInt ≤ z.toInt → ((d, 0#64, d, d, d, smin d z) : N6) = cstN d := fun z h => by rw [smn_r h]; rfl
  have kc : ∀ z : B64, z.toInt ≤ d.toInt → ((d, 0#64, d, d, smax d z, d) : N6) = cstN d := fun z h => by rw [smx_r h]; rfl
  rcases hc with rfl | rfl | rfl | rfl | rfl | rfl | rfl | rfl | rfl | rfl | rfl
  · -- 16
    unfold narN
    rw [if_pos (Or.inl rfl)]
    cases is with
    | true => exact Or.inr rfl
    | false =>
      left
      show (unlN x (cstN d)).2 = cstN d
      have cy : isC (cstN d) := rfl
      unfold unlN
      by_cases cx : isC x
      · rw [if_pos ⟨fun _ => cy, fun _ => cx⟩]
      · rw [if_neg (fun z => cx (z.mpr cy)), if_neg cx]
  · have h1 := h1 (Or.inl rfl)
    left
    cases is with
    | true => exact kb _ (by show d.toNat ≤ (jB x - 1#64).toNat; rw [sub1_nat (by omega)]; omega)
    | false => exact ka _ (by show (jA x + 0#64).toNat ≤ d.toNat; rw [a0]; omega)
  · have h2 := h2 (Or.inl rfl)
    left
    cases is with
    | true => exact kb _ (by show d.toNat ≤ (jB x - 0#64).toNat; rw [s0]; omega)
    | false => exact ka _ (by show (jA x + 1#64).toNat ≤ d.toNat; rw [add1_nat (by omega)]; omega)
  · left
    unfold narN
    rw [if_neg (by decide), if_pos rfl]
    split
    · rfl
    · split <;> rfl
  · unfold narN
    rw [if_pos (Or.inr rfl)]
    cases is with
    | false => exact Or.inr rfl
    | true =>
      left
      show (unlN x (cstN d)).2 = cstN d
      have cy : isC (cstN d) := rfl
      unfold unlN
      by_cases cx : isC x
      · rw [if_pos ⟨fun _ => cy, fun _ => cx⟩]
      · rw [if_neg (fun z => cx (z.mpr cy)), if_neg cx]
  · have h3 := h3 (Or.inl rfl)
    left
    cases is with
    | true => exact kd _ (by show d.toInt ≤ (jD x - 1#64).toInt; rw [sub1_int (by omega)]; omega)
    | false => exact kc _ (by show (jC x + 0#64).toInt ≤ d.toInt; rw [a0]; omega)
  · have h4 := h4 (Or.inl rfl)
    left
    cases is with
    | true => exact kd _ (by show d.toInt ≤ (jD x - 0#64).toInt; rw [s0]; omega)
    | false => exact kc _ (by show (jC x + 1#64).toInt ≤ d.toInt; rw [add1_int (by omega)]; omega)
  · have h2 := h2 (Or.inr rfl)
    left
    cases is with
    | true => exact ka _ (by show (jA x + 1#64).toNat ≤ d.toNat; rw [add1_nat (by omega)]; omega)
    | false => exact kb _ (by show d.toNat ≤ (jB x - 0#64).toNat; rw [s0]; omega)
  · have h1 := h1 (Or.inr rfl)
    left
    cases is with
    | true => exact ka _ (by show (jA x + 0#64).toNat ≤ d.toNat; rw [a0]; omega)
    | false => exact kb _ (by show d.toNat ≤ (jB x - 1#64).toNat; rw [sub1_nat (by omega)]; omega)
  · have h4 := h4 (Or.inr rfl)
    left
    cases is with
    | true => exact kc _ (by show (jC x + 1#64).toInt ≤ d.toInt; rw [add1_int (by omega)]; omega)
    | false => exact kd _ (by show d.toInt ≤ (jD x - 0#64).toInt; rw [s0]; omega)
  · have h3 := h3 (Or.inr rfl)
    left
    cases is with
    | true => exact kc _ (by show (jC x + 0#64).toInt ≤ d.toInt; rw [a0]; omega)
    | false => exact kd _ (by show d.toInt ≤ (jD x - 1#64).toInt; rw [sub1_int (by omega)]; omega)
/-- ranges only shrink, in the orders without sign -/
theorem nar_AB (hc : c = 32 ∨ c = 48 ∨ c = 160 ∨ c = 176) : (jA x).toNat ≤ (jA (narN c is x y).1).toNat ∧ (jB (narN c is x y).1).toNat ≤ (jB x).toNat := by
  rcases hc with rfl | rfl | rfl | rfl
  · cases is with
    | true => exact ⟨bmx_l _ _, Nat.le_refl _⟩
    | false => exact ⟨Nat.le_refl _, bmn_l _ _⟩
  · cases is with
    | true => exact ⟨bmx_l _ _, Nat.le_refl _⟩
    | false => exact ⟨Nat.le_refl _, bmn_l _ _⟩
  · cases is with
    | true => exact ⟨Nat.le_refl _, bmn_l _ _⟩
    | false => exact ⟨bmx_l _ _, Nat.le_refl _⟩
  · cases is with
    | true => exact ⟨Nat.le_refl _, bmn_l _ _⟩
    | false => exact ⟨bmx_l _ _, Nat.le_refl _⟩
/-- a constant on the right need not be looked at -/
theorem nar_G (hc : isCmp c) (h : ndX c x d ∨ ((jB x).toNat < (jA x).toNat ∧ ¬ isSgn c)) : (tdG (narN c is x (cstN d)).1 ∧ tdG (narN c is x (cstN d)).2) ↔ tdG (narN c is x (cstN d)).1 := by
  refine ⟨fun z => z.1, fun z => ⟨z, ?_⟩⟩
  rcases h with h | ⟨h, hs⟩
  · rcases nar_y (is := is) hc h with e | e
    · rw [e]
      exact tdG_cst d
    · rw [e]
      exact z
  · by_cases cc : c = 32 ∨ c = 48 ∨ c = 160 ∨ c = 176
    · have := nar_AB (is := is) (x := x) (y := cstN d) cc
      have := tdG_AB z
      omega
    · have c3 : c = 16 ∨ c = 64 ∨ c = 80 := by omega
      have nd : ndX c x d := ⟨fun q => by omega, fun q => by omega, fun q => absurd (show isSgn c by omega) hs, fun q => absurd (show isSgn c by omega) hs⟩
      rcases nar_y (is := is) hc nd with e | e
      · rw [e]
        exact tdG_cst d
      · rw [e]
        exact z
/-- the class takes the bits away as well -/
def cl64 (x y : N6) : N6 := (jV x &&& ~~~ jV y, jM x &&& ~~~ jV y, jA x, jB x, jC x, jD x)
def pu64 (x y : N6) : N6 := (jV x, jM x &&& ~~~ jV y, jA x, jB x, jC x, jD x)
theorem and_not {a b : B64} (h : a &&& b = 0#64) : a &&& ~~~ b = a := by
  apply BitVec.eq_of_getLsbD_eq
  intro i hi
  have := congrArg (fun z => BitVec.getLsbD z i) h
  simp only [BitVec.getLsbD_and, BitVec.getLsbD_zero] at this
  rw [BitVec.getLsbD_and, BitVec.getLsbD_not]
  cases h1 : a.getLsbD i <;> cases h2 : b.getLsbD i <;> simp_all
theorem td_V (n : N6) {i : Nat} (h : (jV n).getLsbD i = true) : (jV (tdN n)).getLsbD i = true := by
  have v1 : jV (td1 (byB n)) = jV n := by
    unfold td1
    split <;> rfl
  have v2 : jV (td2 (td1 (byB n))) = jV n := by
    unfold td2
    split
    · exact v1
    · exact v1
  unfold tdN
  split
  · show (jV (td2 (td1 (byB n))) ||| _).getLsbD i = true
    rw [BitVec.getLsbD_or, v2, h]
    rfl
  · rw [v2]
    exact h
theorem lo_bit {v : B64} (h : v.toNat < 4294967296) {i : Nat} (hb : v.getLsbD i = true) : i < 32 := by
  refine Classical.byContradiction fun z => ?_
  have : v.toNat.testBit i = false := Nat.testBit_lt_two_pow (Nat.lt_of_lt_of_le h (show 2 ^ 32 ≤ 2 ^ i from Nat.pow_le_pow_right (by decide) (by omega)))
  rw [BitVec.getLsbD] at hb
  rw [this] at hb
  cases hb
theorem dis_n (hx : lowA x) (hB : (jB x).toNat < 4294967296) (h : jV (cutT x) &&& jV (cutT y) = 0#64) : jV x &&& jV y = 0#64 ∨ (jB x).toNat < (jA x).toNat := by
  by_cases ab : (jB x).toNat < (jA x).toNat
  · exact Or.inr ab
  · left
    have hx : ¬ jA x < jV x := hx
    rw [BitVec.lt_def] at hx
    have vl : (jV x).toNat < 4294967296 := by omega
    apply BitVec.eq_of_getLsbD_eq
    intro i hi
    rw [BitVec.getLsbD_zero]
    refine Classical.byContradiction fun z => ?_
    have z : (jV x &&& jV y).getLsbD i = true := by simpa using z
    rw [BitVec.getLsbD_and, Bool.and_eq_true] at z
    have i32 := lo_bit vl z.1
    have cut : ∀ m : N6, (jV m).getLsbD i = true → (jV (cutT m)).getLsbD i = true := fun m hm => by
      refine td_V (cutN m) ?_
      show (jV m &&& cF).getLsbD i = true
      rw [BitVec.getLsbD_and, hm, cF_bit, decide_eq_true i32]
      rfl
    have := congrArg (fun z => BitVec.getLsbD z i) h
    simp only [BitVec.getLsbD_and, BitVec.getLsbD_zero] at this
    rw [cut x z.1, cut y z.2] at this
    cases this
theorem cl_pu (h : jV x &&& jV y = 0#64 ∨ (jB x).toNat < (jA x).toNat) : (tdG (cl64 x y) ↔ tdG (pu64 x y)) ∧ (tdG (pu64 x y) → tdN (cl64 x y) = tdN (pu64 x y)) := by
  by_cases d : jV x &&& jV y = 0#64
  · have e : cl64 x y = pu64 x y := by
      unfold cl64 pu64
      rw [and_not d]
    rw [e]
    exact ⟨Iff.rfl, fun _ => rfl⟩
  · have ab := h.resolve_left d
    have n1 : ¬ tdG (cl64 x y) := fun z => by
      have := tdG_AB z
      have : (jA x).toNat ≤ (jB x).toNat := this
      omega
    have n2 : ¬ tdG (pu64 x y) := fun z => by
      have := tdG_AB z
      have : (jA x).toNat ≤ (jB x).toNat := this
      omega
    exact ⟨⟨fun z => absurd z n1, fun z => absurd z n2⟩, fun z => absurd z n2⟩
end CNA
-- FILE 90a.bcnt
/-! ===== how many bits are set ===== -/
section BCN
theorem lane {a b c d : Nat} (hb : b < 256) (hd : d < 256) : (256 * a + b) &&& (256 * c + d) = 256 * (a &&& c) + (b &&& d) := by
  have bd : b &&& d < 256 := Nat.lt_of_le_of_lt Nat.and_le_left hb
  apply Nat.eq_of_testBit_eq
  intro i
  rw [Nat.testBit_and, show 256 = 2 ^ 8 from rfl, Nat.testBit_two_pow_mul_add a hb, Nat.testBit_two_pow_mul_add c hd, Nat.testBit_two_pow_mul_add (a &&& c) bd]
  split
  · rw [Nat.testBit_and]
  · rw [Nat.testBit_and]
def pA (b : Nat) : Nat := b - (b / 2 &&& 85)
def pB (b : Nat) : Nat := (b &&& 51) + (b / 4 &&& 51)
def pC (b : Nat) : Nat := (b + b / 16) &&& 15
/-- bits of a byte -/
def pp (b : Nat) : Nat := pC (pB (pA b))
theorem k1 : ∀ b : Fin 256, ∀ e : Fin 2, ((b.val / 2 + 128 * e.val) &&& 85) = (b.val / 2 &&& 85) := by decide +kernel
theorem k1' : ∀ b : Fin 256, (b.val / 2 &&& 85) ≤ b.val := by decide +kernel
theorem k2 : ∀ b : Fin 256, ∀ e : Fin 4, ((b.val / 4 + 64 * e.val) &&& 51) = (b.val / 4 &&& 51) := by decide +kernel
theorem k2' : ∀ b : Fin 256, pA b.val < 256 ∧ pB (pA b.val) ≤ 68 ∧ pB (pA b.val) % 16 ≤ 4 := by decide +kernel
theorem k3 : ∀ b : Fin 69, ∀ e : Fin 5, ((b.val + b.val / 16 + 16 * e.val) &&& 15) = pC b.val := by decide +kernel
theorem k3' : ∀ b : Fin 256, pp b.val ≤ 8 := by decide +kernel
/-- the masks -/
def mk85 : Nat → Nat
  | 0 => 0
  | n + 1 => 256 * mk85 n + 85
def mk51 : Nat → Nat
  | 0 => 0
  | n + 1 => 256 * mk51 n + 51
def mk15 : Nat → Nat
  | 0 => 0
  | n + 1 => 256 * mk15 n + 15
/-- f of each byte -/
def byt (f : Nat → Nat) : Nat → Nat → Nat
  | 0, _ => 0
  | n + 1, x => 256 * byt f n (x / 256) + f (x % 256)
theorem half (x : Nat) (n : Nat) : (x / 2) &&& mk85 (n + 1) = 256 * ((x / 256 / 2) &&& mk85 n) + ((x % 256) / 2 &&& 85) := by
  have e : x / 2 = 256 * (x / 256 / 2) + ((x % 256) / 2 + 128 * (x / 256 % 2)) := by omega
  rw [e]
  show (256 * (x / 256 / 2) + ((x % 256) / 2 + 128 * (x / 256 % 2))) &&& (256 * mk85 n + 85) = _
  rw [lane (by omega) (by decide), k1 ⟨x % 256, by omega⟩ ⟨x / 256 % 2, by omega⟩]
theorem stA : ∀ (n x : Nat), x < 256 ^ n → ((x / 2) &&& mk85 n) ≤ x ∧ x - ((x / 2) &&& mk85 n) = byt pA n x := by
  intro n
  induction n with
  | zero =>
    intro x h
    have : x = 0 := by omega
    subst this
    exact ⟨Nat.le_refl _, rfl⟩
  | succ n ih =>
    intro x h
    have h2 : x / 256 < 256 ^ n := by
      rw [Nat.pow_succ] at h
      omega
    obtain ⟨i1, i2⟩ := ih (x / 256) h2
    have l := k1' ⟨x % 256, by omega⟩
    have l : ((x % 256) / 2 &&& 85) ≤ x % 256 := l
    rw [half]
    show _ ∧ _ = 256 * byt pA n (x / 256) + (x % 256 - ((x % 256) / 2 &&& 85))
    rw [← i2]
    omega
theorem byt_d {f : Nat → Nat} (hf : ∀ b, b < 256 → f b < 256) : ∀ (n x : Nat), byt f n x < 256 ^ n := by
  intro n
  induction n with
  | zero => intro x; exact Nat.one_pos
  | succ n ih =>
    intro x
    have := ih (x / 256)
    have := hf (x % 256) (by omega)
    rw [Nat.pow_succ]
    show 256 * byt f n (x / 256) + f (x % 256) < _
    omega
theorem byt_m {f : Nat → Nat} (hf : ∀ b, b < 256 → f b < 256) (n x : Nat) : byt f (n + 1) x % 256 = f (x % 256) ∧ byt f (n + 1) x / 256 = byt f n (x / 256) := by
  have := hf (x % 256) (by omega)
  show (256 * byt f n (x / 256) + f (x % 256)) % 256 = _ ∧ (256 * byt f n (x / 256) + f (x % 256)) / 256 = _
  omega
theorem byt_c {f g : Nat → Nat} (hf : ∀ b, b < 256 → f b < 256) : ∀ (n x : Nat), byt g n (byt f n x) = byt (fun b => g (f b)) n x := by
  intro n
  induction n with
  | zero => intro x; rfl
  | succ n ih =>
    intro x
    obtain ⟨m1, m2⟩ := byt_m hf n x
    show 256 * byt g n (byt f (n + 1) x / 256) + g (byt f (n + 1) x % 256) = 256 * byt (fun b => g (f b)) n (x / 256) + g (f (x % 256))
    rw [m1, m2, ih]
theorem stB : ∀ (n x : Nat), x < 256 ^ n → (x &&& mk51 n) + ((x / 4) &&& mk51 n) = byt pB n x := by
  intro n
  induction n with
  | zero =>
    intro x h
    have : x = 0 := by omega
    subst this
    rfl
  | succ n ih =>
    intro x h
    have h2 : x / 256 < 256 ^ n := by
      rw [Nat.pow_succ] at h
      omega
    have i2 := ih (x / 256) h2
    have e1 : x &&& mk51 (n + 1) = 256 * (x / 256 &&& mk51 n) + (x % 256 &&& 51) := by
      have e : x = 256 * (x / 256) + x % 256 := by omega
      conv => lhs; rw [e]
      show (256 * (x / 256) + x % 256) &&& (256 * mk51 n + 51) = _
      rw [lane (by omega) (by decide)]
    have e2 : (x / 4) &&& mk51 (n + 1) = 256 * (x / 256 / 4 &&& mk51 n) + ((x % 256) / 4 &&& 51) := by
      have e : x / 4 = 256 * (x / 256 / 4) + ((x % 256) / 4 + 64 * (x / 256 % 4)) := by omega
      rw [e]
      show (256 * (x / 256 / 4) + ((x % 256) / 4 + 64 * (x / 256 % 4))) &&& (256 * mk51 n + 51) = _
      rw [lane (by omega) (by decide), k2 ⟨x % 256, by omega⟩ ⟨x / 256 % 4, by omega⟩]
    rw [e1, e2]
    show _ = 256 * byt pB n (x / 256) + ((x % 256 &&& 51) + ((x % 256) / 4 &&& 51))
    rw [← i2]
    omega
theorem bcS : ∀ (n x : Nat), byt (fun b => if b < 256 ∧ b ≤ 68 ∧ b % 16 ≤ 4 then 0 else 1) n x = 0 → x < 256 ^ n → (x + x / 16) &&& mk15 n = byt pC n x := by
  intro n
  induction n with
  | zero =>
    intro x _ h
    have : x = 0 := by omega
    subst this
    rfl
  | succ n ih =>
    intro x g h
    have h2 : x / 256 < 256 ^ n := by
      rw [Nat.pow_succ] at h
      omega
    have g : 256 * byt (fun b => if b < 256 ∧ b ≤ 68 ∧ b % 16 ≤ 4 then 0 else 1) n (x / 256) + (if x % 256 < 256 ∧ x % 256 ≤ 68 ∧ x % 256 % 16 ≤ 4 then 0 else 1) = 0 := g
    have g1 : x % 256 < 256 ∧ x % 256 ≤ 68 ∧ x % 256 % 16 ≤ 4 := by
      refine Classical.byContradiction fun z => ?_
      rw [if_neg z] at g
      omega
    have g0 : byt (fun b => if b < 256 ∧ b ≤ 68 ∧ b % 16 ≤ 4 then 0 else 1) n (x / 256) = 0 := by omega
    have i2 := ih (x / 256) g0 h2
    have lo : x / 256 % 16 ≤ 4 := by
      cases n with
      | zero =>
        have : x / 256 = 0 := by
          have : (256 : Nat) ^ 0 = 1 := rfl
          omega
        omega
      | succ n =>
        have g0 : 256 * byt (fun b => if b < 256 ∧ b ≤ 68 ∧ b % 16 ≤ 4 then 0 else 1) n (x / 256 / 256) + (if x / 256 % 256 < 256 ∧ x / 256 % 256 ≤ 68 ∧ x / 256 % 256 % 16 ≤ 4 then 0 else 1) = 0 := g0
        have : x / 256 % 256 < 256 ∧ x / 256 % 256 ≤ 68 ∧ x / 256 % 256 % 16 ≤ 4 := by
          refine Classical.byContradiction fun z => ?_
          rw [if_neg z] at g0
          omega
        omega
    have e : x + x / 16 = 256 * (x / 256 + x / 256 / 16) + (x % 256 + (x % 256) / 16 + 16 * (x / 256 % 16)) := by omega
    rw [e]
    show (256 * (x / 256 + x / 256 / 16) + (x % 256 + (x % 256) / 16 + 16 * (x / 256 % 16))) &&& (256 * mk15 n + 15) = 256 * byt pC n (x / 256) + pC (x % 256)
    rw [lane (by omega) (by decide), i2, k3 ⟨x % 256, by omega⟩ ⟨x / 256 % 16, by omega⟩]
/-- sum of the bytes -/
def sumB (f : Nat → Nat) : Nat → Nat → Nat
  | 0, _ => 0
  | n + 1, x => f (x % 256) + sumB f n (x / 256)
theorem byt_t {f : Nat → Nat} (hf : ∀ b, b < 256 → f b ≤ 68) : ∀ (n x : Nat), byt f (n + 1) x + 1 ≤ 69 * 256 ^ n := by
  intro n
  induction n with
  | zero =>
    intro x
    have := hf (x % 256) (by omega)
    show 256 * 0 + f (x % 256) + 1 ≤ 69 * 1
    omega
  | succ n ih =>
    intro x
    have i := ih (x / 256)
    have := hf (x % 256) (by omega)
    have pw : (256 : Nat) ^ (n + 1) = 256 * 256 ^ n := by rw [Nat.pow_succ, Nat.mul_comm]
    rw [pw]
    generalize (256 : Nat) ^ n = q at *
    show 256 * byt f (n + 1) (x / 256) + f (x % 256) + 1 ≤ 69 * (256 * q)
    generalize byt f (n + 1) (x / 256) = z at *
    omega
theorem lI127 (x : B64) : iAnd (lI x) 127 = ((x.toNat % 128 : Nat) : Int) := by
  rw [show iAnd (lI x) 127 = lI x % 128 from iAnd_mask (k := 7) (by omega)]
  have h1 := toInt_c x
  have hx := x.isLt
  unfold lI w32
  rw [h1, Int.bmod_def]
  split <;> split <;> omega
theorem bcC_n (x : B64) : (bcC x).toNat = byt pp 8 x.toNat := by
  have lx : x.toNat < 256 ^ 8 := x.isLt
  obtain ⟨a1, a2⟩ := stA 8 x.toNat lx
  have m85 : (iL 6148914691236517205).toNat = mk85 8 := by decide
  have m51 : (iL 3689348814741910323).toNat = mk51 8 := by decide
  have m15 : (iL 1085102592571150095).toNat = mk15 8 := by decide
  have us : ∀ (y : B64) (s : Nat), s < 64 → (lUsh y (s : Int)).toNat = y.toNat / 2 ^ s := fun y s hs => by
    rw [lUsh_k y hs, BitVec.toNat_ushiftRight, Nat.shiftRight_eq_div_pow]
  have fA : ∀ b, b < 256 → pA b < 256 := fun b h => (k2' ⟨b, h⟩).1
  have fB : ∀ b, b < 256 → pB (pA b) < 256 := fun b h => by have := (k2' ⟨b, h⟩).2.1; have : pB (pA b) ≤ 68 := this; omega
  have eX : (bcX x).toNat = byt pA 8 x.toNat := by
    unfold bcX
    have e : (lUsh x 1 &&& iL 6148914691236517205).toNat = (x.toNat / 2) &&& mk85 8 := by
      rw [BitVec.toNat_and, m85]
      have := us x 1 (by decide)
      rw [show lUsh x 1 = lUsh x ((1 : Nat) : Int) from rfl, this]
    rw [BitVec.toNat_sub, e, ← a2]
    have : (x.toNat / 2) &&& mk85 8 ≤ x.toNat := a1
    have l2 : x.toNat < 2 ^ 64 := x.isLt
    omega
  have lA := byt_d fA 8 x.toNat
  have eB : (bcB x).toNat = byt (fun b => pB (pA b)) 8 x.toNat := by
    unfold bcB
    have b := stB 8 (byt pA 8 x.toNat) lA
    rw [byt_c fA] at b
    have e1 : (bcX x &&& iL 3689348814741910323).toNat = byt pA 8 x.toNat &&& mk51 8 := by rw [BitVec.toNat_and, m51, eX]
    have e2 : (lUsh (bcX x) 2 &&& iL 3689348814741910323).toNat = (byt pA 8 x.toNat / 4) &&& mk51 8 := by
      rw [BitVec.toNat_and, m51]
      have := us (bcX x) 2 (by decide)
      rw [show lUsh (bcX x) 2 = lUsh (bcX x) ((2 : Nat) : Int) from rfl, this, eX]
    have lB := byt_d fB 8 x.toNat
    have p8 : (256 : Nat) ^ 8 = 2 ^ 64 := by decide
    rw [BitVec.toNat_add, e1, e2, b]
    exact Nat.mod_eq_of_lt (by omega)
  have sm : byt (fun b => pB (pA b)) 8 x.toNat < 2 ^ 63 := by
    have := byt_t (f := fun b => pB (pA b)) (fun b h => (k2' ⟨b, h⟩).2.1) 7 x.toNat
    have p7 : (256 : Nat) ^ 7 = 72057594037927936 := by decide
    rw [p7] at this
    have h8 : byt (fun b => pB (pA b)) 8 x.toNat = byt (fun b => pB (pA b)) (7 + 1) x.toNat := rfl
    omega
  have eC : (bcB x + lUsh (bcB x) 4).toNat = byt (fun b => pB (pA b)) 8 x.toNat + byt (fun b => pB (pA b)) 8 x.toNat / 16 := by
    have := us (bcB x) 4 (by decide)
    rw [BitVec.toNat_add, show lUsh (bcB x) 4 = lUsh (bcB x) ((4 : Nat) : Int) from rfl, this, eB]
    have e16 : (2 : Nat) ^ 4 = 16 := by decide
    rw [e16]
    exact Nat.mod_eq_of_lt (by omega)
  have z0 : ∀ (n y : Nat), byt (fun b => if b < 256 ∧ b ≤ 68 ∧ b % 16 ≤ 4 then 0 else 1) n (byt (fun b => pB (pA b)) n y) = 0 := by
    intro n
    induction n with
    | zero => intro y; rfl
    | succ n ih =>
      intro y
      obtain ⟨m1, m2⟩ := byt_m fB n y
      show 256 * byt (fun b => if b < 256 ∧ b ≤ 68 ∧ b % 16 ≤ 4 then 0 else 1) n (byt (fun b => pB (pA b)) (n + 1) y / 256) + (if byt (fun b => pB (pA b)) (n + 1) y % 256 < 256 ∧ byt (fun b => pB (pA b)) (n + 1) y % 256 ≤ 68 ∧ byt (fun b => pB (pA b)) (n + 1) y % 256 % 16 ≤ 4 then 0 else 1) = 0
      have kk := k2' ⟨y % 256, by omega⟩
      have kk : pA (y % 256) < 256 ∧ pB (pA (y % 256)) ≤ 68 ∧ pB (pA (y % 256)) % 16 ≤ 4 := kk
      rw [m1, m2, ih, if_pos ⟨by omega, kk.2.1, kk.2.2⟩]
  unfold bcC
  rw [BitVec.toNat_and, m15, eC, bcS 8 _ (z0 8 x.toNat) (byt_d fB 8 x.toNat), byt_c fB]
  rfl
theorem div_sp {n m H L : Nat} (e : n = m * H + L) (h : L < m) : n / m = H := by
  subst e
  rw [Nat.mul_add_div (by omega), Nat.div_eq_of_lt h, Nat.add_zero]
theorem bc_us (y : B64) (s : Nat) (hs : s < 64) : (lUsh y (s : Int)).toNat = y.toNat / 2 ^ s := by
  rw [lUsh_k y hs, BitVec.toNat_ushiftRight, Nat.shiftRight_eq_div_pow]
theorem bq_1 {p0 p1 p2 p3 p4 p5 p6 p7 : Nat} (b0 : p0 ≤ 8) (b1 : p1 ≤ 8) (b2' : p2 ≤ 8) (b3 : p3 ≤ 8) (b4 : p4 ≤ 8) (b5 : p5 ≤ 8) (b6 : p6 ≤ 8) (b7 : p7 ≤ 8) : (256 * (256 * (256 * (256 * (256 * (256 * (256 * (256 * 0 + p7) + p6) + p5) + p4) + p3) + p2) + p1) + p0) / 256 = 256 * (256 * (256 * (256 * (256 * (256 * p7 + p6) + p5) + p4) + p3) + p2) + p1 := div_sp (L := p0) (by omega) (by omega)
theorem bq_2 {p0 p1 p2 p3 p4 p5 p6 p7 : Nat} (b0 : p0 ≤ 8) (b1 : p1 ≤ 8) (b2' : p2 ≤ 8) (b3 : p3 ≤ 8) (b4 : p4 ≤ 8) (b5 : p5 ≤ 8) (b6 : p6 ≤ 8) (b7 : p7 ≤ 8) : (256 * (256 * (256 * (256 * (256 * (256 * (256 * (256 * 0 + p7) + p6) + p5) + p4) + p3) + p2) + p1) + p0) + (256 * (256 * (256 * (256 * (256 * (256 * p7 + p6) + p5) + p4) + p3) + p2) + p1) = 256 * (256 * (256 * (256 * (256 * (256 * (256 * p7 + (p6 + p7)) + (p5 + p6)) + (p4 + p5)) + (p3 + p4)) + (p2 + p3)) + (p1 + p2)) + (p0 + p1) := by omega
theorem bq_3 {p0 p1 p2 p3 p4 p5 p6 p7 : Nat} (b0 : p0 ≤ 8) (b1 : p1 ≤ 8) (b2' : p2 ≤ 8) (b3 : p3 ≤ 8) (b4 : p4 ≤ 8) (b5 : p5 ≤ 8) (b6 : p6 ≤ 8) (b7 : p7 ≤ 8) : (256 * (256 * (256 * (256 * (256 * (256 * (256 * p7 + (p6 + p7)) + (p5 + p6)) + (p4 + p5)) + (p3 + p4)) + (p2 + p3)) + (p1 + p2)) + (p0 + p1)) < 2 ^ 64 := by omega
theorem bq_4 {p0 p1 p2 p3 p4 p5 p6 p7 : Nat} (b0 : p0 ≤ 8) (b1 : p1 ≤ 8) (b2' : p2 ≤ 8) (b3 : p3 ≤ 8) (b4 : p4 ≤ 8) (b5 : p5 ≤ 8) (b6 : p6 ≤ 8) (b7 : p7 ≤ 8) : (256 * (256 * (256 * (256 * (256 * (256 * (256 * p7 + (p6 + p7)) + (p5 + p6)) + (p4 + p5)) + (p3 + p4)) + (p2 + p3)) + (p1 + p2)) + (p0 + p1)) / 65536 = 256 * (256 * (256 * (256 * (256 * p7 + (p6 + p7)) + (p5 + p6)) + (p4 + p5)) + (p3 + p4)) + (p2 + p3) := div_sp (L := 256 * (p1 + p2) + (p0 + p1)) (by omega) (by omega)
theorem bq_5 {p0 p1 p2 p3 p4 p5 p6 p7 : Nat} (b0 : p0 ≤ 8) (b1 : p1 ≤ 8) (b2' : p2 ≤ 8) (b3 : p3 ≤ 8) (b4 : p4 ≤ 8) (b5 : p5 ≤ 8) (b6 : p6 ≤ 8) (b7 : p7 ≤ 8) : (256 * (256 * (256 * (256 * (256 * (256 * (256 * p7 + (p6 + p7)) + (p5 + p6)) + (p4 + p5)) + (p3 + p4)) + (p2 + p3)) + (p1 + p2)) + (p0 + p1)) + (256 * (256 * (256 * (256 * (256 * p7 + (p6 + p7)) + (p5 + p6)) + (p4 + p5)) + (p3 + p4)) + (p2 + p3)) = 256 * (256 * (256 * (256 * (256 * (256 * (256 * p7 + (p6 + p7)) + (p5 + p6 + p7)) + (p4 + p5 + p6 + p7)) + (p3 + p4 + p5 + p6)) + (p2 + p3 + p4 + p5)) + (p1 + p2 + p3 + p4)) + (p0 + p1 + p2 + p3) := by omega
theorem bq_6 {p0 p1 p2 p3 p4 p5 p6 p7 : Nat} (b0 : p0 ≤ 8) (b1 : p1 ≤ 8) (b2' : p2 ≤ 8) (b3 : p3 ≤ 8) (b4 : p4 ≤ 8) (b5 : p5 ≤ 8) (b6 : p6 ≤ 8) (b7 : p7 ≤ 8) : (256 * (256 * (256 * (256 * (256 * (256 * (256 * p7 + (p6 + p7)) + (p5 + p6 + p7)) + (p4 + p5 + p6 + p7)) + (p3 + p4 + p5 + p6)) + (p2 + p3 + p4 + p5)) + (p1 + p2 + p3 + p4)) + (p0 + p1 + p2 + p3)) < 2 ^ 64 := by omega
theorem bq_7 {p0 p1 p2 p3 p4 p5 p6 p7 : Nat} (b0 : p0 ≤ 8) (b1 : p1 ≤ 8) (b2' : p2 ≤ 8) (b3 : p3 ≤ 8) (b4 : p4 ≤ 8) (b5 : p5 ≤ 8) (b6 : p6 ≤ 8) (b7 : p7 ≤ 8) : (256 * (256 * (256 * (256 * (256 * (256 * (256 * p7 + (p6 + p7)) + (p5 + p6 + p7)) + (p4 + p5 + p6 + p7)) + (p3 + p4 + p5 + p6)) + (p2 + p3 + p4 + p5)) + (p1 + p2 + p3 + p4)) + (p0 + p1 + p2 + p3)) / 4294967296 = 256 * (256 * (256 * p7 + (p6 + p7)) + (p5 + p6 + p7)) + (p4 + p5 + p6 + p7) := div_sp (L := 256 * (256 * (256 * (p3 + p4 + p5 + p6) + (p2 + p3 + p4 + p5)) + (p1 + p2 + p3 + p4)) + (p0 + p1 + p2 + p3)) (by omega) (by omega)
theorem bq_8 {p0 p1 p2 p3 p4 p5 p6 p7 : Nat} (b0 : p0 ≤ 8) (b1 : p1 ≤ 8) (b2' : p2 ≤ 8) (b3 : p3 ≤ 8) (b4 : p4 ≤ 8) (b5 : p5 ≤ 8) (b6 : p6 ≤ 8) (b7 : p7 ≤ 8) : (256 * (256 * (256 * (256 * (256 * (256 * (256 * p7 + (p6 + p7)) + (p5 + p6 + p7)) + (p4 + p5 + p6 + p7)) + (p3 + p4 + p5 + p6)) + (p2 + p3 + p4 + p5)) + (p1 + p2 + p3 + p4)) + (p0 + p1 + p2 + p3)) + (256 * (256 * (256 * p7 + (p6 + p7)) + (p5 + p6 + p7)) + (p4 + p5 + p6 + p7)) < 2 ^ 64 := by omega
theorem bq_9 {p0 p1 p2 p3 p4 p5 p6 p7 : Nat} (b0 : p0 ≤ 8) (b1 : p1 ≤ 8) (b2' : p2 ≤ 8) (b3 : p3 ≤ 8) (b4 : p4 ≤ 8) (b5 : p5 ≤ 8) (b6 : p6 ≤ 8) (b7 : p7 ≤ 8) : ((256 * (256 * (256 * (256 * (256 * (256 * (256 * p7 + (p6 + p7)) + (p5 + p6 + p7)) + (p4 + p5 + p6 + p7)) + (p3 + p4 + p5 + p6)) + (p2 + p3 + p4 + p5)) + (p1 + p2 + p3 + p4)) + (p0 + p1 + p2 + p3)) + (256 * (256 * (256 * p7 + (p6 + p7)) + (p5 + p6 + p7)) + (p4 + p5 + p6 + p7))) % 128 = p0 + p1 + p2 + p3 + p4 + p5 + p6 + p7 := by omega
theorem bcD_b {x : B64} {p0 p1 p2 p3 p4 p5 p6 p7 : Nat} (b0 : p0 ≤ 8) (b1 : p1 ≤ 8) (b2' : p2 ≤ 8) (b3 : p3 ≤ 8) (b4 : p4 ≤ 8) (b5 : p5 ≤ 8) (b6 : p6 ≤ 8) (b7 : p7 ≤ 8) (c : (bcC x).toNat = 256 * (256 * (256 * (256 * (256 * (256 * (256 * (256 * 0 + p7) + p6) + p5) + p4) + p3) + p2) + p1) + p0) : (bcD x).toNat = 256 * (256 * (256 * (256 * (256 * (256 * (256 * p7 + (p6 + p7)) + (p5 + p6)) + (p4 + p5)) + (p3 + p4)) + (p2 + p3)) + (p1 + p2)) + (p0 + p1) := by
  unfold bcD
  have u := bc_us (bcC x) 8 (by decide)
  rw [show (2 : Nat) ^ 8 = 256 by decide] at u
  rw [BitVec.toNat_add, show lUsh (bcC x) 8 = lUsh (bcC x) ((8 : Nat) : Int) from rfl, u, c, bq_1 b0 b1 b2' b3 b4 b5 b6 b7, bq_2 b0 b1 b2' b3 b4 b5 b6 b7]
  exact Nat.mod_eq_of_lt (bq_3 b0 b1 b2' b3 b4 b5 b6 b7)
theorem bcE_b {x : B64} {p0 p1 p2 p3 p4 p5 p6 p7 : Nat} (b0 : p0 ≤ 8) (b1 : p1 ≤ 8) (b2' : p2 ≤ 8) (b3 : p3 ≤ 8) (b4 : p4 ≤ 8) (b5 : p5 ≤ 8) (b6 : p6 ≤ 8) (b7 : p7 ≤ 8) (c : (bcC x).toNat = 256 * (256 * (256 * (256 * (256 * (256 * (256 * (256 * 0 + p7) + p6) + p5) + p4) + p3) + p2) + p1) + p0) : (bcE x).toNat = 256 * (256 * (256 * (256 * (256 * (256 * (256 * p7 + (p6 + p7)) + (p5 + p6 + p7)) + (p4 + p5 + p6 + p7)) + (p3 + p4 + p5 + p6)) + (p2 + p3 + p4 + p5)) + (p1 + p2 + p3 + p4)) + (p0 + p1 + p2 + p3) := by
  unfold bcE
  have u := bc_us (bcD x) 16 (by decide)
  rw [show (2 : Nat) ^ 16 = 65536 by decide] at u
  rw [BitVec.toNat_add, show lUsh (bcD x) 16 = lUsh (bcD x) ((16 : Nat) : Int) from rfl, u, bcD_b b0 b1 b2' b3 b4 b5 b6 b7 c, bq_4 b0 b1 b2' b3 b4 b5 b6 b7, bq_5 b0 b1 b2' b3 b4 b5 b6 b7]
  exact Nat.mod_eq_of_lt (bq_6 b0 b1 b2' b3 b4 b5 b6 b7)
theorem bcG_b {x : B64} {p0 p1 p2 p3 p4 p5 p6 p7 : Nat} (b0 : p0 ≤ 8) (b1 : p1 ≤ 8) (b2' : p2 ≤ 8) (b3 : p3 ≤ 8) (b4 : p4 ≤ 8) (b5 : p5 ≤ 8) (b6 : p6 ≤ 8) (b7 : p7 ≤ 8) (c : (bcC x).toNat = 256 * (256 * (256 * (256 * (256 * (256 * (256 * (256 * 0 + p7) + p6) + p5) + p4) + p3) + p2) + p1) + p0) : (bcE x + lUsh (bcE x) 32).toNat % 128 = p0 + p1 + p2 + p3 + p4 + p5 + p6 + p7 := by
  have u := bc_us (bcE x) 32 (by decide)
  rw [show (2 : Nat) ^ 32 = 4294967296 by decide] at u
  rw [BitVec.toNat_add, show lUsh (bcE x) 32 = lUsh (bcE x) ((32 : Nat) : Int) from rfl, u, bcE_b b0 b1 b2' b3 b4 b5 b6 b7 c, bq_7 b0 b1 b2' b3 b4 b5 b6 b7, Nat.mod_eq_of_lt (bq_8 b0 b1 b2' b3 b4 b5 b6 b7)]
  exact bq_9 b0 b1 b2' b3 b4 b5 b6 b7
theorem bcF_b (x : B64) : ∃ p0 p1 p2 p3 p4 p5 p6 p7 : Nat, bcF x = ((p0 + p1 + p2 + p3 + p4 + p5 + p6 + p7 : Nat) : Int) ∧ (p0 = pp (x.toNat % 256) ∧ p1 = pp (x.toNat / 256 % 256) ∧ p2 = pp (x.toNat / 256 / 256 % 256) ∧ p3 = pp (x.toNat / 256 / 256 / 256 % 256) ∧ p4 = pp (x.toNat / 256 / 256 / 256 / 256 % 256) ∧ p5 = pp (x.toNat / 256 / 256 / 256 / 256 / 256 % 256) ∧ p6 = pp (x.toNat / 256 / 256 / 256 / 256 / 256 / 256 % 256) ∧ p7 = pp (x.toNat / 256 / 256 / 256 / 256 / 256 / 256 / 256 % 256)) := by
  refine ⟨_, _, _, _, _, _, _, _, ?_, rfl, rfl, rfl, rfl, rfl, rfl, rfl, rfl⟩
  have c := bcC_n x
  have u : byt pp 8 x.toNat = 256 * (256 * (256 * (256 * (256 * (256 * (256 * (256 * 0 + pp (x.toNat / 256 / 256 / 256 / 256 / 256 / 256 / 256 % 256)) + pp (x.toNat / 256 / 256 / 256 / 256 / 256 / 256 % 256)) + pp (x.toNat / 256 / 256 / 256 / 256 / 256 % 256)) + pp (x.toNat / 256 / 256 / 256 / 256 % 256)) + pp (x.toNat / 256 / 256 / 256 % 256)) + pp (x.toNat / 256 / 256 % 256)) + pp (x.toNat / 256 % 256)) + pp (x.toNat % 256) := rfl
  rw [u] at c
  have b : ∀ z : Nat, pp (z % 256) ≤ 8 := fun z => k3' ⟨z % 256, by omega⟩
  have b0 := b x.toNat
  have b1 := b (x.toNat / 256)
  have b2' := b (x.toNat / 256 / 256)
  have b3 := b (x.toNat / 256 / 256 / 256)
  have b4 := b (x.toNat / 256 / 256 / 256 / 256)
  have b5 := b (x.toNat / 256 / 256 / 256 / 256 / 256)
  have b6 := b (x.toNat / 256 / 256 / 256 / 256 / 256 / 256)
  have b7 := b (x.toNat / 256 / 256 / 256 / 256 / 256 / 256 / 256)
  generalize pp (x.toNat % 256) = p0 at *
  generalize pp (x.toNat / 256 % 256) = p1 at *
  generalize pp (x.toNat / 256 / 256 % 256) = p2 at *
  generalize pp (x.toNat / 256 / 256 / 256 % 256) = p3 at *
  generalize pp (x.toNat / 256 / 256 / 256 / 256 % 256) = p4 at *
  generalize pp (x.toNat / 256 / 256 / 256 / 256 / 256 % 256) = p5 at *
  generalize pp (x.toNat / 256 / 256 / 256 / 256 / 256 / 256 % 256) = p6 at *
  generalize pp (x.toNat / 256 / 256 / 256 / 256 / 256 / 256 / 256 % 256) = p7 at *
  unfold bcF
  rw [lI127, bcG_b b0 b1 b2' b3 b4 b5 b6 b7 c]
theorem ppz : ∀ b : Fin 256, pp b.val = 0 → b.val = 0 := by decide +kernel
theorem ppo : ∀ b : Fin 256, pp b.val = 1 → ∃ j : Fin 8, b.val = 2 ^ j.val := by decide +kernel
theorem pw_and : ∀ n : Fin 64, BitVec.ofNat 64 (2 ^ n.val) &&& (BitVec.ofNat 64 (2 ^ n.val) - 1#64) = 0#64 := by decide +kernel
theorem bc_one {d : B64} (h : bcF d = 1) : d &&& (d - 1#64) = 0#64 := by
  obtain ⟨p0, p1, p2, p3, p4, p5, p6, p7, hs, e0, e1, e2, e3, e4, e5, e6, e7⟩ := bcF_b d
  rw [hs] at h
  have l : d.toNat < 2 ^ 64 := d.isLt
  have z : ∀ y : Nat, pp (y % 256) = 0 → y % 256 = 0 := fun y h => ppz ⟨y % 256, by omega⟩ h
  have o : ∀ y : Nat, pp (y % 256) = 1 → ∃ j : Nat, j < 8 ∧ y % 256 = 2 ^ j := fun y h => by
    obtain ⟨j, hj⟩ := ppo ⟨y % 256, by omega⟩ h
    exact ⟨j.val, j.isLt, hj⟩
  have fin : ∀ k j : Nat, k < 8 → j < 8 → d.toNat = 256 ^ k * 2 ^ j → d &&& (d - 1#64) = 0#64 := fun k j hk hj e => by
    have e' : d = BitVec.ofNat 64 (2 ^ (8 * k + j)) := by
      apply BitVec.eq_of_toNat_eq
      rw [BitVec.toNat_ofNat, e, Nat.pow_add, Nat.pow_mul]
      have : (2 : Nat) ^ 8 = 256 := by decide
      rw [this, ← e]
      exact (Nat.mod_eq_of_lt l).symm
    rw [e']
    exact pw_and ⟨8 * k + j, by omega⟩
  generalize hn : d.toNat = n at *
  have c : p0 = 1 ∨ p1 = 1 ∨ p2 = 1 ∨ p3 = 1 ∨ p4 = 1 ∨ p5 = 1 ∨ p6 = 1 ∨ p7 = 1 := by omega
  have zz : ∀ p y : Nat, p = pp (y % 256) → p = 0 → y % 256 = 0 := fun p y h1 h2 => z y (by omega)
  have oo : ∀ p y : Nat, p = pp (y % 256) → p = 1 → ∃ j : Nat, j < 8 ∧ y % 256 = 2 ^ j := fun p y h1 h2 => o y (by omega)
  rcases c with c | c | c | c | c | c | c | c
  · obtain ⟨j, hj, q⟩ := oo _ _ e0 c
    have := zz _ _ e1 (by omega)
    have := zz _ _ e2 (by omega)
    have := zz _ _ e3 (by omega)
    have := zz _ _ e4 (by omega)
    have := zz _ _ e5 (by omega)
    have := zz _ _ e6 (by omega)
    have := zz _ _ e7 (by omega)
    refine fin 0 j (by decide) hj ?_
    rw [← q]
    omega
  · obtain ⟨j, hj, q⟩ := oo _ _ e1 c
    have := zz _ _ e0 (by omega)
    have := zz _ _ e2 (by omega)
    have := zz _ _ e3 (by omega)
    have := zz _ _ e4 (by omega)
    have := zz _ _ e5 (by omega)
    have := zz _ _ e6 (by omega)
    have := zz _ _ e7 (by omega)
    refine fin 1 j (by decide) hj ?_
    rw [← q]
    omega
  · obtain ⟨j, hj, q⟩ := oo _ _ e2 c
    have := zz _ _ e0 (by omega)
    have := zz _ _ e1 (by omega)
    have := zz _ _ e3 (by omega)
    have := zz _ _ e4 (by omega)
    have := zz _ _ e5 (by omega)
    have := zz _ _ e6 (by omega)
    have := zz _ _ e7 (by omega)
    refine fin 2 j (by decide) hj ?_
    rw [← q]
    omega
  · obtain ⟨j, hj, q⟩ := oo _ _ e3 c
    have := zz _ _ e0 (by omega)
    have := zz _ _ e1 (by omega)
    have := zz _ _ e2 (by omega)
    have := zz _ _ e4 (by omega)
    have := zz _ _ e5 (by omega)
    have := zz _ _ e6 (by omega)
    have := zz _ _ e7 (by omega)
    refine fin 3 j (by decide) hj ?_
    rw [← q]
    omega
  · obtain ⟨j, hj, q⟩ := oo _ _ e4 c
    have := zz _ _ e0 (by omega)
    have := zz _ _ e1 (by omega)
    have := zz _ _ e2 (by omega)
    have := zz _ _ e3 (by omega)
    have := zz _ _ e5 (by omega)
    have := zz _ _ e6 (by omega)
    have := zz _ _ e7 (by omega)
    refine fin 4 j (by decide) hj ?_
    rw [← q]
    omega
  · obtain ⟨j, hj, q⟩ := oo _ _ e5 c
    have := zz _ _ e0 (by omega)
    have := zz _ _ e1 (by omega)
    have := zz _ _ e2 (by omega)
    have := zz _ _ e3 (by omega)
    have := zz _ _ e4 (by omega)
    have := zz _ _ e6 (by omega)
    have := zz _ _ e7 (by omega)
    refine fin 5 j (by decide) hj ?_
    rw [← q]
    omega
  · obtain ⟨j, hj, q⟩ := oo _ _ e6 c
    have := zz _ _ e0 (by omega)
    have := zz _ _ e1 (by omega)
    have := zz _ _ e2 (by omega)
    have := zz _ _ e3 (by omega)
    have := zz _ _ e4 (by omega)
    have := zz _ _ e5 (by omega)
    have := zz _ _ e7 (by omega)
    refine fin 6 j (by decide) hj ?_
    rw [← q]
    omega
  · obtain ⟨j, hj, q⟩ := oo _ _ e7 c
    have := zz _ _ e0 (by omega)
    have := zz _ _ e1 (by omega)
    have := zz _ _ e2 (by omega)
    have := zz _ _ e3 (by omega)
    have := zz _ _ e4 (by omega)
    have := zz _ _ e5 (by omega)
    have := zz _ _ e6 (by omega)
    refine fin 7 j (by decide) hj ?_
    rw [← q]
    omega
theorem bc_pow {d : B64} (h : d &&& (d - 1#64) = 0#64) (h0 : ¬ d = 0#64) : bcF d = 1 := by
  have m : d &&& (-d) = d := by
    have e : -d = ~~~ (d - 1#64) := by
      rw [BitVec.neg_eq_not_add]
      apply BitVec.eq_of_toNat_eq
      rw [BitVec.toNat_add, BitVec.toNat_not, BitVec.toNat_not, BitVec.toNat_sub]
      have := d.isLt
      have : 0 < d.toNat := by
        refine Nat.pos_of_ne_zero fun z => h0 ?_
        exact BitVec.eq_of_toNat_eq z
      show (2 ^ 64 - 1 - d.toNat + 1) % 2 ^ 64 = 2 ^ 64 - 1 - (2 ^ 64 - 1 + d.toNat) % 2 ^ 64
      omega
    rw [e]
    exact and_not h
  have l := low_mask d
  rw [m] at l
  have lz := lowZ_le d
  have e : d = BitVec.ofNat 64 (2 ^ lowZ d) := by
    have e1 : d = (d - 1#64) + 1#64 := by rw [BitVec.sub_add_cancel]
    rw [l] at e1
    refine e1.trans ?_
    have p : 0 < 2 ^ lowZ d := Nat.two_pow_pos _
    generalize 2 ^ lowZ d = N at p ⊢
    apply BitVec.eq_of_toNat_eq
    simp only [BitVec.toNat_add, BitVec.toNat_ofNat]
    omega
  have a := List.all_eq_true.mp bc_one_all (lowZ d) (List.mem_range.mpr (by omega))
  have a := of_decide_eq_true a
  rw [← e] at a
  by_cases z : lowZ d = 64
  · exfalso
    rw [z] at e
    exact h0 (e.trans (by decide))
  · rw [if_neg z] at a
    exact a
end BCN
-- FILE 91.cnrw
/-! ===== the class's NARROWED ===== -/
section CNRW
variable {τ σ ρ : MS} {k j p q : Nat} {E : EV} {w : B64} {S S' : ST} {t n g : Int} {c : Int} {x y : N6} {d : B64}
def setN (n : N6) (s : Nat) (v : B64) : N6 := (if s = 0 then v else n.1, if s = 1 then v else n.2.1, if s = 2 then v else n.2.2.1, if s = 3 then v else n.2.2.2.1, if s = 4 then v else n.2.2.2.2.1, if s = 5 then v else n.2.2.2.2.2)
theorem rC_sL {i s : Nat} {v : B64} {z : Nat} : rC (sL σ i s v) z = if z = i then setN (rC σ i) s v else rC σ z := by
  by_cases e : z = i
  · subst e
    rw [if_pos rfl]
    unfold rC setN
    simp only [gL_sL, true_and, eq_comm]
  · rw [if_neg e]
    unfold rC
    simp only [gL_sL, e, false_and, if_false]
theorem nfq_l {i s : Nat} {v : B64} (h : 42 ≤ i ∧ i ≤ 50) : nfq (sL σ i s v) σ := ⟨fun _ _ => rfl, fun k s' p => by rw [gL_sL, if_neg (by omega)], rfl⟩
theorem mxi {a b : B64} {e : Decidable (¬ a < b)} : (@ite B64 (¬ a < b) e a b) = bmax a b := by
  unfold bmax
  by_cases h : a < b
  · rw [if_neg (not_not_intro h), if_pos h]
  · rw [if_pos h, if_neg h]
theorem mni {a b : B64} {e : Decidable (¬ a < b)} : (@ite B64 (¬ a < b) e b a) = bmin a b := by
  unfold bmin
  by_cases h : a < b
  · rw [if_neg (not_not_intro h), if_pos h]
  · rw [if_pos h, if_neg h]
theorem T275 (hp : isNm σ p) (hq : isNm σ q) (hne : ¬ q = p) : MM 275 [mR (some p), mR (some q)] σ = some (none, wC (wC σ p (bothN (rC σ p) (rC σ q))) q (bothN (rC σ p) (rC σ q))) := by
  have p0 : gL σ p 0 = jV (rC σ p) := rfl
  have p1 : gL σ p 1 = jM (rC σ p) := rfl
  have p2 : gL σ p 2 = jA (rC σ p) := rfl
  have p3 : gL σ p 3 = jB (rC σ p) := rfl
  have p4 : gL σ p 4 = jC (rC σ p) := rfl
  have p5 : gL σ p 5 = jD (rC σ p) := rfl
  have q0 : gL σ q 0 = jV (rC σ q) := rfl
  have q1 : gL σ q 1 = jM (rC σ q) := rfl
  have q2 : gL σ q 2 = jA (rC σ q) := rfl
  have q3 : gL σ q 3 = jB (rC σ q) := rfl
  have q4 : gL σ q 4 = jC (rC σ q) := rfl
  have q5 : gL σ q 5 = jD (rC σ q) := rfl
  obtain ⟨x, hx⟩ : ∃ x, x = rC σ p := ⟨_, rfl⟩
  obtain ⟨y, hy⟩ : ∃ y, y = rC σ q := ⟨_, rfl⟩
  rw [← hx] at p0 p1 p2 p3 p4 p5
  rw [← hy] at q0 q1 q2 q3 q4 q5
  rw [← hx, ← hy]
  have ap := aoN hp
  have aq := aoN hq
  have s1 : MM 275 [mR (some p), mR (some q)] σ = (MM 66 [mR (some q), mR (some p)] (sL (sL (sL (sL (sL (sL σ p 0 (jV x ||| jV y)) p 1 (jM x &&& jM y)) p 2 (bmax (jA x) (jA y))) p 3 (bmin (jB x) (jB y))) p 4 (smax (jC x) (jC y))) p 5 (smin (jD x) (jD y)))).bind fun r => RR (lkB tb275) (B275_119, [some (mR (some p)), some (mR (some q))], r.1.toList ++ [], r.2) := by
    by_cases hA : jA x < jA y
    · rw [show bmax (jA x) (jA y) = jA y from if_pos hA]
      by_cases hB : jB x < jB y
      · rw [show bmin (jB x) (jB y) = jB x from if_pos hB]
        simp only [M275, e275_0, e275_38, e275_52, e275_67, e275_81, e275_96, e275_111, Option.getD_some, Option.bind_some, Option.toList_some, Option.toList_none, List.cons_append, List.nil_append, and_self, and_true, true_and, false_and, and_false, ite_self, not_true_eq_false, not_false_eq_true, reduceIte, Nat.reduceEqDiff, ab_I, ab_L, ab_R, ao_I, ao_L, ao_R, gL_sL, gI_sI, gR_sR, gI_sL, gI_sR, gL_sI, gL_sR, gR_sI, gR_sL, ap, aq, hne, p0, p1, p2, p3, p4, p5, q0, q1, q2, q3, q4, q5, T17, b2_0', eq_true hA, eq_true hB, T571, T572]
      · rw [show bmin (jB x) (jB y) = jB y from if_neg hB]
        simp only [M275, e275_0, e275_38, e275_52, e275_67, e275_81, e275_96, e275_111, Option.getD_some, Option.bind_some, Option.toList_some, Option.toList_none, List.cons_append, List.nil_append, and_self, and_true, true_and, false_and, and_false, ite_self, not_true_eq_false, not_false_eq_true, reduceIte, Nat.reduceEqDiff, ab_I, ab_L, ab_R, ao_I, ao_L, ao_R, gL_sL, gI_sI, gR_sR, gI_sL, gI_sR, gL_sI, gL_sR, gR_sI, gR_sL, ap, aq, hne, p0, p1, p2, p3, p4, p5, q0, q1, q2, q3, q4, q5, T17, b2_0', eq_true hA, eq_false hB, T571, T572]
    · rw [show bmax (jA x) (jA y) = jA x from if_neg hA]
      by_cases hB : jB x < jB y
      · rw [show bmin (jB x) (jB y) = jB x from if_pos hB]
        simp only [M275, e275_0, e275_38, e275_52, e275_67, e275_81, e275_96, e275_111, Option.getD_some, Option.bind_some, Option.toList_some, Option.toList_none, List.cons_append, List.nil_append, and_self, and_true, true_and, false_and, and_false, ite_self, not_true_eq_false, not_false_eq_true, reduceIte, Nat.reduceEqDiff, ab_I, ab_L, ab_R, ao_I, ao_L, ao_R, gL_sL, gI_sI, gR_sR, gI_sL, gI_sR, gL_sI, gL_sR, gR_sI, gR_sL, ap, aq, hne, p0, p1, p2, p3, p4, p5, q0, q1, q2, q3, q4, q5, T17, b2_0', eq_false hA, eq_true hB, T571, T572]
      · rw [show bmin (jB x) (jB y) = jB y from if_neg hB]
        simp only [M275, e275_0, e275_38, e275_52, e275_67, e275_81, e275_96, e275_111, Option.getD_some, Option.bind_some, Option.toList_some, Option.toList_none, List.cons_append, List.nil_append, and_self, and_true, true_and, false_and, and_false, ite_self, not_true_eq_false, not_false_eq_true, reduceIte, Nat.reduceEqDiff, ab_I, ab_L, ab_R, ao_I, ao_L, ao_R, gL_sL, gI_sI, gR_sR, gI_sL, gI_sR, gL_sI, gL_sR, gR_sI, gR_sL, ap, aq, hne, p0, p1, p2, p3, p4, p5, q0, q1, q2, q3, q4, q5, T17, b2_0', eq_false hA, eq_false hB, T571, T572]
  have t66 := T66 (σ := wC σ p (bothN x y)) (k := q) (j := p) hq hp (fun z => hne z.symm)
  rw [rC_wC, if_pos rfl] at t66
  rw [s1]
  rw [show sL (sL (sL (sL (sL (sL σ p 0 (jV x ||| jV y)) p 1 (jM x &&& jM y)) p 2 (bmax (jA x) (jA y))) p 3 (bmin (jB x) (jB y))) p 4 (smax (jC x) (jC y))) p 5 (smin (jD x) (jD y)) = wC σ p (bothN x y) from rfl, t66]
  simp only [e275_119, Option.getD_some, Option.bind_some, Option.toList_some, Option.toList_none, List.cons_append, List.nil_append, and_self, and_true, true_and, false_and, and_false, ite_self, not_true_eq_false, not_false_eq_true, reduceIte, Nat.reduceEqDiff, ab_I, ab_L, ab_R, ao_I, ao_L, ao_R, gL_sL, gI_sI, gR_sR, gI_sL, gI_sR, gL_sI, gL_sR, gR_sI, gR_sL]
theorem av_a {a : B64} {e : Decidable (¬ a = d)} : a + (@ite B64 (¬ a = d) e (BitVec.ofNat 64 0) (BitVec.ofNat 64 1)) = if a = d then a + 1#64 else a := by
  by_cases h : a = d
  · rw [if_neg (not_not_intro h), if_pos h]
  · rw [if_pos h, if_neg h]
    show a + 0#64 = a
    simp
theorem av_s {a : B64} {e : Decidable (¬ a = d)} : a - (@ite B64 (¬ a = d) e (BitVec.ofNat 64 0) (BitVec.ofNat 64 1)) = if a = d then a - 1#64 else a := by
  by_cases h : a = d
  · rw [if_neg (not_not_intro h), if_pos h]
  · rw [if_pos h, if_neg h]
    show a - 0#64 = a
    simp
theorem mrgL4 {T : Nat → List Ins} {P : Prop} {e : Decidable P} {B : List Ins} {L : List (Option MV)} {a b : B64} {s : List MV} {f : B64 → MS} : (@ite (Option Rs) P e (some (none, f a)) (some (none, f b))) = some (none, f (@ite _ P e a b)) := by
  split <;> rfl
theorem T277 (hp : isNm σ p) : MM 277 [mR (some p), mL d] σ = some (none, wC σ p (notN (rC σ p) d)) := by
  obtain ⟨x, hx⟩ : ∃ x, x = rC σ p := ⟨_, rfl⟩
  have e0 : σ = wC σ p x := by rw [hx, wC_eta]
  rw [← hx]
  have ap := aoN hp
  have key : ∀ z : N6, MM 277 [mR (some p), mL d] (wC σ p z) = some (none, wC σ p (notN z d)) := by
    rintro ⟨v, m, a, b, c, e⟩
    have aw : ∀ n : N6, ao (wC σ p n) 2 (some p) = True := fun n => aoNw hp
    have e5 : notN (v, m, a, b, c, e) d = (v, m, (if a = d then a + 1#64 else a), (if b = d then b - 1#64 else b), (if c = d then c + 1#64 else c), (if e = d then e - 1#64 else e)) := rfl
    have z1 : ∀ u : B64, u + BitVec.ofNat 64 0 = u := fun u => BitVec.add_zero u
    have z2 : ∀ u : B64, u - BitVec.ofNat 64 0 = u := fun u => BitVec.sub_zero u
    rw [e5]
    by_cases hA : a = d <;> by_cases hB : b = d <;> by_cases hC : c = d <;> by_cases hD : e = d <;> simp only [M277, e277_0, e277_19, e277_42, e277_65, Option.getD_some, Option.bind_some, Option.toList_some, Option.toList_none, List.cons_append, List.nil_append, and_self, and_true, true_and, false_and, and_false, ite_self, not_true_eq_false, not_false_eq_true, reduceIte, Nat.reduceEqDiff, ab_I, ab_L, ab_R, ao_I, ao_L, ao_R, gL_sL, gI_sI, gR_sR, gI_sL, gI_sR, gL_sI, gL_sR, gR_sI, gR_sL, aw, gC2, gC3, gC4, gC5, wC2, wC3, wC4, wC5, hA, hB, hC, hD, z1, z2]
  have key := key x
  rw [← e0] at key
  exact key
theorem T276 (hp : isNm σ p) (hq : isNm σ q) (hne : ¬ q = p) (hb : ¬ (isC (rC σ p) ∧ isC (rC σ q))) : okc (MM 276 [mR (some p), mR (some q)] σ) none (fun τ => (rC τ p = (unlN (rC σ p) (rC σ q)).1 ∧ rC τ q = (unlN (rC σ p) (rC σ q)).2) ∧ (∀ k s, gI τ k s = gI σ k s) ∧ (∀ k s, ¬ k = p → ¬ k = q → gL τ k s = gL σ k s) ∧ τ.2.2 = σ.2.2) := by
  have p0 : gL σ p 0 = jV (rC σ p) := rfl
  have q0 : gL σ q 0 = jV (rC σ q) := rfl
  have p1 : gL σ p 1 = jM (rC σ p) := rfl
  have q1 : gL σ q 1 = jM (rC σ q) := rfl
  have ap := aoN hp
  have aq := aoN hq
  have t69p := T69 hp
  have t69q := T69 hq
  rw [p1] at t69p
  rw [q1] at t69q
  have t77p := T277 (d := jV (rC σ q)) hp
  have t77q := T277 (d := jV (rC σ p)) hq
  unfold unlN
  by_cases cx : isC (rC σ p)
  · have cy : ¬ isC (rC σ q) := fun z => hb ⟨cx, z⟩
    rw [b2_yes cx] at t69p
    rw [b2_no cy] at t69q
    rw [if_neg (fun z => cy (z.mp cx)), if_pos cx]
    refine okc_o (τ := wC σ q (notN (rC σ q) (jV (rC σ p)))) ?_ ⟨⟨?_, ?_⟩, fun _ _ => rfl, fun k s a b => gC_ne b, rfl⟩
    · simp only [M276, e276_0, e276_4, e276_14, e276_25, e276_34, Option.getD_some, Option.bind_some, Option.toList_some, Option.toList_none, List.cons_append, List.nil_append, and_self, and_true, true_and, false_and, and_false, ite_self, not_true_eq_false, not_false_eq_true, reduceIte, Nat.reduceEqDiff, ab_I, ab_L, ab_R, ao_I, ao_L, ao_R, gL_sL, gI_sI, gR_sR, gI_sL, gI_sR, gL_sI, gL_sR, gR_sI, gR_sL, ap, aq, t69p, t69q, oneI, p0, t77q]
    · rw [rC_wC, if_neg (fun z => hne z.symm)]
    · rw [rC_wC, if_pos rfl]
  · rw [b2_no cx] at t69p
    by_cases cy : isC (rC σ q)
    · rw [b2_yes cy] at t69q
      rw [if_neg (fun z => cx (z.mpr cy)), if_neg cx]
      refine okc_o (τ := wC σ p (notN (rC σ p) (jV (rC σ q)))) ?_ ⟨⟨?_, ?_⟩, fun _ _ => rfl, fun k s a b => gC_ne a, rfl⟩
      · simp only [M276, e276_0, e276_4, e276_14, e276_25, e276_34, Option.getD_some, Option.bind_some, Option.toList_some, Option.toList_none, List.cons_append, List.nil_append, and_self, and_true, true_and, false_and, and_false, ite_self, not_true_eq_false, not_false_eq_true, reduceIte, Nat.reduceEqDiff, ab_I, ab_L, ab_R, ao_I, ao_L, ao_R, gL_sL, gI_sI, gR_sR, gI_sL, gI_sR, gL_sI, gL_sR, gR_sI, gR_sL, ap, aq, t69p, t69q, oneI, q0, t77p]
      · rw [rC_wC, if_pos rfl]
      · rw [rC_wC, if_neg hne]
    · rw [b2_no cy] at t69q
      rw [if_pos ⟨fun z => absurd z cx, fun z => absurd z cy⟩]
      refine okc_o (τ := σ) ?_ ⟨⟨rfl, rfl⟩, fun _ _ => rfl, fun _ _ _ _ => rfl, rfl⟩
      simp only [M276, e276_0, e276_4, e276_14, e276_25, e276_34, Option.getD_some, Option.bind_some, Option.toList_some, Option.toList_none, List.cons_append, List.nil_append, and_self, and_true, true_and, false_and, and_false, ite_self, not_true_eq_false, not_false_eq_true, reduceIte, Nat.reduceEqDiff, ab_I, ab_L, ab_R, ao_I, ao_L, ao_R, gL_sL, gI_sI, gR_sR, gI_sL, gI_sR, gL_sI, gL_sR, gR_sI, gR_sL, ap, aq, t69p, t69q]
theorem T279u {m : Int} (hp : isNm σ p) (hq : isNm σ q) (hne : ¬ q = p) : MM 279 [mR (some p), mR (some q), mI 0, mI m] σ = some (none, sL (sL σ p 2 (bmax (jA (rC σ p)) (jA (rC σ q) + iL m))) q 3 (bmin (jB (rC σ q)) (jB (rC σ p) - iL m))) := by
  have p2 : gL σ p 2 = jA (rC σ p) := rfl
  have p3 : gL σ p 3 = jB (rC σ p) := rfl
  have q2 : gL σ q 2 = jA (rC σ q) := rfl
  have q3 : gL σ q 3 = jB (rC σ q) := rfl
  generalize rC σ p = x at *
  generalize rC σ q = y at *
  have ap := aoN hp
  have aq := aoN hq
  by_cases hA : jA x < jA y + iL m
  · rw [show bmax (jA x) (jA y + iL m) = jA y + iL m from if_pos hA]
    by_cases hB : jB y < jB x - iL m
    · rw [show bmin (jB y) (jB x - iL m) = jB y from if_pos hB]
      simp only [M279, e279_0, e279_79, e279_91, e279_104, e279_116, Option.getD_some, Option.bind_some, Option.toList_some, Option.toList_none, List.cons_append, List.nil_append, and_self, and_true, true_and, false_and, and_false, ite_self, not_true_eq_false, not_false_eq_true, reduceIte, Nat.reduceEqDiff, ab_I, ab_L, ab_R, ao_I, ao_L, ao_R, gL_sL, gI_sI, gR_sR, gI_sL, gI_sR, gL_sI, gL_sR, gR_sI, gR_sL, ap, aq, hne, p2, p3, q2, q3, T17, b2_0', eq_true hA, eq_true hB]
    · rw [show bmin (jB y) (jB x - iL m) = jB x - iL m from if_neg hB]
      simp only [M279, e279_0, e279_79, e279_91, e279_104, e279_116, Option.getD_some, Option.bind_some, Option.toList_some, Option.toList_none, List.cons_append, List.nil_append, and_self, and_true, true_and, false_and, and_false, ite_self, not_true_eq_false, not_false_eq_true, reduceIte, Nat.reduceEqDiff, ab_I, ab_L, ab_R, ao_I, ao_L, ao_R, gL_sL, gI_sI, gR_sR, gI_sL, gI_sR, gL_sI, gL_sR, gR_sI, gR_sL, ap, aq, hne, p2, p3, q2, q3, T17, b2_0', eq_true hA, eq_false hB]
  · rw [show bmax (jA x) (jA y + iL m) = jA x from if_neg hA]
    by_cases hB : jB y < jB x - iL m
    · rw [show bmin (jB y) (jB x - iL m) = jB y from if_pos hB]
      simp only [M279, e279_0, e279_79, e279_91, e279_104, e279_116, Option.getD_some, Option.bind_some, Option.toList_some, Option.toList_none, List.cons_append, List.nil_append, and_self, and_true, true_and, false_and, and_false, ite_self, not_true_eq_false, not_false_eq_true, reduceIte, Nat.reduceEqDiff, ab_I, ab_L, ab_R, ao_I, ao_L, ao_R, gL_sL, gI_sI, gR_sR, gI_sL, gI_sR, gL_sI, gL_sR, gR_sI, gR_sL, ap, aq, hne, p2, p3, q2, q3, T17, b2_0', eq_false hA, eq_true hB]
    · rw [show bmin (jB y) (jB x - iL m) = jB x - iL m from if_neg hB]
      simp only [M279, e279_0, e279_79, e279_91, e279_104, e279_116, Option.getD_some, Option.bind_some, Option.toList_some, Option.toList_none, List.cons_append, List.nil_append, and_self, and_true, true_and, false_and, and_false, ite_self, not_true_eq_false, not_false_eq_true, reduceIte, Nat.reduceEqDiff, ab_I, ab_L, ab_R, ao_I, ao_L, ao_R, gL_sL, gI_sI, gR_sR, gI_sL, gI_sR, gL_sI, gL_sR, gR_sI, gR_sL, ap, aq, hne, p2, p3, q2, q3, T17, b2_0', eq_false hA, eq_false hB]
theorem T279s {m : Int} (hp : isNm σ p) (hq : isNm σ q) (hne : ¬ q = p) : MM 279 [mR (some p), mR (some q), mI 1, mI m] σ = some (none, sL (sL σ p 4 (smax (jC (rC σ p)) (jC (rC σ q) + iL m))) q 5 (smin (jD (rC σ q)) (jD (rC σ p) - iL m))) := by
  have p2 : gL σ p 4 = jC (rC σ p) := rfl
  have p3 : gL σ p 5 = jD (rC σ p) := rfl
  have q2 : gL σ q 4 = jC (rC σ q) := rfl
  have q3 : gL σ q 5 = jD (rC σ q) := rfl
  generalize rC σ p = x at *
  generalize rC σ q = y at *
  have ap := aoN hp
  have aq := aoN hq
  simp only [M279, e279_0, e279_32, e279_45, Option.getD_some, Option.bind_some, Option.toList_some, Option.toList_none, List.cons_append, List.nil_append, and_self, and_true, true_and, false_and, and_false, ite_self, not_true_eq_false, not_false_eq_true, reduceIte, Nat.reduceEqDiff, ab_I, ab_L, ab_R, ao_I, ao_L, ao_R, gL_sL, gI_sI, gR_sR, gI_sL, gI_sR, gL_sI, gL_sR, gR_sI, gR_sL, ap, aq, hne, oneI, p2, p3, q2, q3, T571, T572]
/-- the numbers on the two ways, not yet tidied -/
def nrP (τ : MS) (c : Int) (x y : N6) : Prop := (rC τ 47 = (narN c true x y).1 ∧ rC τ 48 = (narN c true x y).2) ∧ rC τ 49 = (if c = 64 ∧ isC y then cl64 x y else (narN c false x y).1) ∧ rC τ 50 = (narN c false x y).2
theorem nrP_n (h : ¬ c = 64) (a : rC τ 47 = (narN c true x y).1) (b : rC τ 48 = (narN c true x y).2) (e : rC τ 49 = (narN c false x y).1) (f : rC τ 50 = (narN c false x y).2) : nrP τ c x y := ⟨⟨a, b⟩, by rw [if_neg (fun z => h z.1)]; exact e, f⟩
theorem T274 (hc : isCmp c) (ex : rC σ 42 = x) (ey : rC σ 43 = y) (hb : c = 16 ∨ c = 80 → ¬ (isC x ∧ isC y)) : okc (MM 274 [mR (some 40), mI c, mI (b2 (isSgn c))] σ) none (fun τ => nrP τ c x y ∧ nfq τ σ) := by
  have t66a := T66 (σ := σ) (k := 47) (j := 42) (kc_47 _) (kc_42 _) (by decide)
  rw [ex] at t66a
  have t66b := T66 (σ := wC σ 47 x) (k := 48) (j := 43) (kc_48 _) (kc_43 _) (by decide)
  rw [rC_wC, if_neg (by decide), ey] at t66b
  have t66c := T66 (σ := wC (wC σ 47 x) 48 y) (k := 49) (j := 42) (kc_49 _) (kc_42 _) (by decide)
  rw [rC_wC, if_neg (by decide), rC_wC, if_neg (by decide), ex] at t66c
  have t66d := T66 (σ := wC (wC (wC σ 47 x) 48 y) 49 x) (k := 50) (j := 43) (kc_50 _) (kc_43 _) (by decide)
  rw [rC_wC, if_neg (by decide), rC_wC, if_neg (by decide), rC_wC, if_neg (by decide), ey] at t66d
  have s44 : MM 274 [mR (some 40), mI c, mI (b2 (isSgn c))] σ = RR (lkB tb274) (B274_44, [some (mR (some 40)), some (mI c), some (mI (b2 (isSgn c)))], [], wC (wC (wC (wC σ 47 x) 48 y) 49 x) 50 y) := by
    simp only [M274, e274_0, e274_11, e274_22, e274_33, Option.getD_some, Option.bind_some, Option.toList_some, Option.toList_none, List.cons_append, List.nil_append, and_self, and_true, true_and, false_and, and_false, ite_self, not_true_eq_false, not_false_eq_true, reduceIte, Nat.reduceEqDiff, ab_I, ab_L, ab_R, ao_I, ao_L, ao_R, gL_sL, gI_sI, gR_sR, gI_sL, gI_sR, gL_sI, gL_sR, gR_sI, gR_sL, t66a, t66b, t66c, t66d]
  rw [s44]
  have q0 : nfq (wC (wC (wC (wC σ 47 x) 48 y) 49 x) 50 y) σ := nfq_t (nfq_w (by omega)) (nfq_t (nfq_w (by omega)) (nfq_t (nfq_w (by omega)) (nfq_w (by omega))))
  have r42 : rC (wC (wC (wC (wC σ 47 x) 48 y) 49 x) 50 y) 43 = y := by rw [rC_wC, if_neg (by decide), rC_wC, if_neg (by decide), rC_wC, if_neg (by decide), rC_wC, if_neg (by decide), ey]
  have r47 : rC (wC (wC (wC (wC σ 47 x) 48 y) 49 x) 50 y) 47 = x := by rw [rC_wC, if_neg (by decide), rC_wC, if_neg (by decide), rC_wC, if_neg (by decide), rC_wC, if_pos rfl]
  have r48 : rC (wC (wC (wC (wC σ 47 x) 48 y) 49 x) 50 y) 48 = y := by rw [rC_wC, if_neg (by decide), rC_wC, if_neg (by decide), rC_wC, if_pos rfl]
  have r49 : rC (wC (wC (wC (wC σ 47 x) 48 y) 49 x) 50 y) 49 = x := by rw [rC_wC, if_neg (by decide), rC_wC, if_pos rfl]
  have r50 : rC (wC (wC (wC (wC σ 47 x) 48 y) 49 x) 50 y) 50 = y := by rw [rC_wC, if_pos rfl]
  generalize wC (wC (wC (wC σ 47 x) 48 y) 49 x) 50 y = ρ at *
  clear t66a t66b t66c t66d s44
  have one : iL 1 = 1#64 := rfl
  have zer : iL 0 = 0#64 := rfl
  -- two orders, one for each way
  have ordu : ∀ (a b e f : Nat) (m m' : Int), ((a = 47 ∧ b = 48) ∨ (a = 48 ∧ b = 47)) → ((e = 50 ∧ f = 49) ∨ (e = 49 ∧ f = 50)) → ∃ τ1 τ2, MM 279 [mR (some a), mR (some b), mI 0, mI m] ρ = some (none, τ1) ∧ MM 279 [mR (some e), mR (some f), mI 0, mI m'] τ1 = some (none, τ2) ∧ nfq τ2 σ
      ∧ rC τ2 a = setN (rC ρ a) 2 (bmax (jA (rC ρ a)) (jA (rC ρ b) + iL m)) ∧ rC τ2 b = setN (rC ρ b) 3 (bmin (jB (rC ρ b)) (jB (rC ρ a) - iL m)) ∧ rC τ2 e = setN (rC ρ e) 2 (bmax (jA (rC ρ e)) (jA (rC ρ f) + iL m')) ∧ rC τ2 f = setN (rC ρ f) 3 (bmin (jB (rC ρ f)) (jB (rC ρ e) - iL m')) := fun a b e f m m' h1 h2 => by
    have na : isNm ρ a := by rcases h1 with ⟨h, -⟩ | ⟨h, -⟩ <;> subst h <;> rfl
    have nb : isNm ρ b := by rcases h1 with ⟨-, h⟩ | ⟨-, h⟩ <;> subst h <;> rfl
    have t1 := T279u (m := m) na nb (by omega)
    obtain ⟨τ1, hτ1⟩ : ∃ τ1, τ1 = sL (sL ρ a 2 (bmax (jA (rC ρ a)) (jA (rC ρ b) + iL m))) b 3 (bmin (jB (rC ρ b)) (jB (rC ρ a) - iL m)) := ⟨_, rfl⟩
    rw [← hτ1] at t1
    have ne : isNm τ1 e := by rcases h2 with ⟨h, -⟩ | ⟨h, -⟩ <;> subst h <;> rfl
    have nf : isNm τ1 f := by rcases h2 with ⟨-, h⟩ | ⟨-, h⟩ <;> subst h <;> rfl
    have t2 := T279u (m := m') ne nf (by omega)
    have re : rC τ1 e = rC ρ e := by rw [hτ1, rC_sL, if_neg (by omega), rC_sL, if_neg (by omega)]
    have rf : rC τ1 f = rC ρ f := by rw [hτ1, rC_sL, if_neg (by omega), rC_sL, if_neg (by omega)]
    rw [re, rf] at t2
    refine ⟨τ1, _, t1, t2, nfq_t (nfq_l (by omega)) (nfq_t (nfq_l (by omega)) (nfq_t (by rw [hτ1]; exact nfq_t (nfq_l (by omega)) (nfq_l (by omega))) q0)), ?_, ?_, ?_, ?_⟩
    · rw [rC_sL, if_neg (by omega), rC_sL, if_neg (by omega), hτ1, rC_sL, if_neg (by omega), rC_sL, if_pos rfl]
    · rw [rC_sL, if_neg (by omega), rC_sL, if_neg (by omega), hτ1, rC_sL, if_pos rfl, rC_sL, if_neg (by omega)]
    · rw [rC_sL, if_neg (by omega), rC_sL, if_pos rfl, re]
    · rw [rC_sL, if_pos rfl, rC_sL, if_neg (by omega), rf]
  have ords : ∀ (a b e f : Nat) (m m' : Int), ((a = 47 ∧ b = 48) ∨ (a = 48 ∧ b = 47)) → ((e = 50 ∧ f = 49) ∨ (e = 49 ∧ f = 50)) → ∃ τ1 τ2, MM 279 [mR (some a), mR (some b), mI 1, mI m] ρ = some (none, τ1) ∧ MM 279 [mR (some e), mR (some f), mI 1, mI m'] τ1 = some (none, τ2) ∧ nfq τ2 σ
      ∧ rC τ2 a = setN (rC ρ a) 4 (smax (jC (rC ρ a)) (jC (rC ρ b) + iL m)) ∧ rC τ2 b = setN (rC ρ b) 5 (smin (jD (rC ρ b)) (jD (rC ρ a) - iL m)) ∧ rC τ2 e = setN (rC ρ e) 4 (smax (jC (rC ρ e)) (jC (rC ρ f) + iL m')) ∧ rC τ2 f = setN (rC ρ f) 5 (smin (jD (rC ρ f)) (jD (rC ρ e) - iL m')) := fun a b e f m m' h1 h2 => by
    have na : isNm ρ a := by rcases h1 with ⟨h, -⟩ | ⟨h, -⟩ <;> subst h <;> rfl
    have nb : isNm ρ b := by rcases h1 with ⟨-, h⟩ | ⟨-, h⟩ <;> subst h <;> rfl
    have t1 := T279s (m := m) na nb (by omega)
    obtain ⟨τ1, hτ1⟩ : ∃ τ1, τ1 = sL (sL ρ a 4 (smax (jC (rC ρ a)) (jC (rC ρ b) + iL m))) b 5 (smin (jD (rC ρ b)) (jD (rC ρ a) - iL m)) := ⟨_, rfl⟩
    rw [← hτ1] at t1
    have ne : isNm τ1 e := by rcases h2 with ⟨h, -⟩ | ⟨h, -⟩ <;> subst h <;> rfl
    have nf : isNm τ1 f := by rcases h2 with ⟨-, h⟩ | ⟨-, h⟩ <;> subst h <;> rfl
    have t2 := T279s (m := m') ne nf (by omega)
    have re : rC τ1 e = rC ρ e := by rw [hτ1, rC_sL, if_neg (by omega), rC_sL, if_neg (by omega)]
    have rf : rC τ1 f = rC ρ f := by rw [hτ1, rC_sL, if_neg (by omega), rC_sL, if_neg (by omega)]
    rw [re, rf] at t2
    refine ⟨τ1, _, t1, t2, nfq_t (nfq_l (by omega)) (nfq_t (nfq_l (by omega)) (nfq_t (by rw [hτ1]; exact nfq_t (nfq_l (by omega)) (nfq_l (by omega))) q0)), ?_, ?_, ?_, ?_⟩
    · rw [rC_sL, if_neg (by omega), rC_sL, if_neg (by omega), hτ1, rC_sL, if_neg (by omega), rC_sL, if_pos rfl]
    · rw [rC_sL, if_neg (by omega), rC_sL, if_neg (by omega), hτ1, rC_sL, if_pos rfl, rC_sL, if_neg (by omega)]
    · rw [rC_sL, if_neg (by omega), rC_sL, if_pos rfl, re]
    · rw [rC_sL, if_pos rfl, rC_sL, if_neg (by omega), rf]
  rcases hc with rfl | rfl | rfl | rfl | rfl | rfl | rfl | rfl | rfl | rfl | rfl
  · -- 16
    have hb := hb (Or.inl rfl)
    have t75 := T275 (σ := ρ) (p := 47) (q := 48) (kc_47 _) (kc_48 _) (by decide)
    rw [r47, r48] at t75
    obtain ⟨ρ1, hρ1⟩ : ∃ ρ1, ρ1 = wC (wC ρ 47 (bothN x y)) 48 (bothN x y) := ⟨_, rfl⟩
    rw [← hρ1] at t75
    have e49 : rC ρ1 49 = x := by rw [hρ1, rC_wC, if_neg (by decide), rC_wC, if_neg (by decide), r49]
    have e50 : rC ρ1 50 = y := by rw [hρ1, rC_wC, if_neg (by decide), rC_wC, if_neg (by decide), r50]
    have e47 : rC ρ1 47 = bothN x y := by rw [hρ1, rC_wC, if_neg (by decide), rC_wC, if_pos rfl]
    have e48 : rC ρ1 48 = bothN x y := by rw [hρ1, rC_wC, if_pos rfl]
    have qq : nfq ρ1 σ := by rw [hρ1]; exact nfq_t (nfq_w (by omega)) (nfq_t (nfq_w (by omega)) q0)
    obtain ⟨τ, t76, ⟨a1, a2⟩, a3, a4, a5⟩ := T276 (σ := ρ1) (p := 49) (q := 50) (kc_49 _) (kc_50 _) (by decide) (by rw [e49, e50]; exact hb)
    rw [e49, e50] at a1 a2
    have kp : ∀ i, ¬ i = 49 → ¬ i = 50 → rC τ i = rC ρ1 i := fun i h1 h2 => by
      unfold rC
      rw [a4 i _ h1 h2, a4 i _ h1 h2, a4 i _ h1 h2, a4 i _ h1 h2, a4 i _ h1 h2, a4 i _ h1 h2]
    refine okc_o (τ := τ) ?_ ⟨nrP_n (by decide) ?_ ?_ a1 a2, nfq_t ⟨a3, fun k s h => a4 k s (by omega) (by omega), a5⟩ qq⟩
    · simp only [e274_44, e274_139, e274_150, e274_298, Option.getD_some, Option.bind_some, Option.toList_some, Option.toList_none, List.cons_append, List.nil_append, and_self, and_true, true_and, false_and, and_false, ite_self, not_true_eq_false, not_false_eq_true, reduceIte, Nat.reduceEqDiff, ab_I, ab_L, ab_R, ao_I, ao_L, ao_R, gL_sL, gI_sI, gR_sR, gI_sL, gI_sR, gL_sI, gL_sR, gR_sI, gR_sL, t75, t76]
    · rw [kp 47 (by decide) (by decide), e47]; rfl
    · rw [kp 48 (by decide) (by decide), e48]; rfl
  · obtain ⟨τ1, τ2, t1, t2, qq, a1, a2, a3, a4⟩ := ordu 47 48 50 49 1 0 (Or.inl ⟨rfl, rfl⟩) (Or.inl ⟨rfl, rfl⟩)
    rw [r47, r48] at a1 a2
    rw [r49, r50] at a3 a4
    have s0 : b2 (isSgn 32) = 0 := b2_no (by decide)
    refine okc_o (τ := τ2) ?_ ⟨nrP_n (by decide) a1 a2 a4 a3, qq⟩
    simp only [e274_44, e274_198, e274_211, e274_298, Option.getD_some, Option.bind_some, Option.toList_some, Option.toList_none, List.cons_append, List.nil_append, and_self, and_true, true_and, false_and, and_false, ite_self, not_true_eq_false, not_false_eq_true, reduceIte, Nat.reduceEqDiff, ab_I, ab_L, ab_R, ao_I, ao_L, ao_R, gL_sL, gI_sI, gR_sR, gI_sL, gI_sR, gL_sI, gL_sR, gR_sI, gR_sL, Int.reduceEq, s0, t1, t2]
  · obtain ⟨τ1, τ2, t1, t2, qq, a1, a2, a3, a4⟩ := ordu 47 48 50 49 0 1 (Or.inl ⟨rfl, rfl⟩) (Or.inl ⟨rfl, rfl⟩)
    rw [r47, r48] at a1 a2
    rw [r49, r50] at a3 a4
    have s0 : b2 (isSgn 48) = 0 := b2_no (by decide)
    refine okc_o (τ := τ2) ?_ ⟨nrP_n (by decide) a1 a2 a4 a3, qq⟩
    simp only [e274_44, e274_227, e274_240, e274_298, Option.getD_some, Option.bind_some, Option.toList_some, Option.toList_none, List.cons_append, List.nil_append, and_self, and_true, true_and, false_and, and_false, ite_self, not_true_eq_false, not_false_eq_true, reduceIte, Nat.reduceEqDiff, ab_I, ab_L, ab_R, ao_I, ao_L, ao_R, gL_sL, gI_sI, gR_sR, gI_sL, gI_sR, gL_sI, gL_sR, gR_sI, gR_sL, Int.reduceEq, s0, t1, t2]
  · -- 64
    have t69 := T69 (σ := ρ) (k := 43) (kc_43 _)
    have g1 : gL ρ 43 1 = jM y := by rw [← r42]; rfl
    have g0 : gL ρ 43 0 = jV y := by rw [← r42]; rfl
    rw [g1] at t69
    by_cases cy : isC y
    · rw [b2_yes cy] at t69
      have p7 : gL ρ 47 0 = jV x := by rw [← r47]; rfl
      have p71 : gL ρ 47 1 = jM x := by rw [← r47]; rfl
      have p9 : gL ρ 49 0 = jV x := by rw [← r49]; rfl
      have p91 : gL ρ 49 1 = jM x := by rw [← r49]; rfl
      by_cases b1 : bcF (jV y) = 1
      · refine okc_o (τ := sL (sL (sL (sL ρ 47 0 (jV x ||| jV y)) 47 1 (jM x &&& ~~~ jV y)) 49 0 (jV x &&& ~~~ jV y)) 49 1 (jM x &&& ~~~ jV y)) ?_ ⟨⟨⟨?_, ?_⟩, ?_, ?_⟩, nfq_t (nfq_l (by omega)) (nfq_t (nfq_l (by omega)) (nfq_t (nfq_l (by omega)) (nfq_t (nfq_l (by omega)) q0)))⟩
        · simp only [e274_44, e274_182, e274_298, M278, e278_0, e278_7, e278_21, e278_67, Option.getD_some, Option.bind_some, Option.toList_some, Option.toList_none, List.cons_append, List.nil_append, and_self, and_true, true_and, false_and, and_false, ite_self, not_true_eq_false, not_false_eq_true, reduceIte, Nat.reduceEqDiff, ab_I, ab_L, ab_R, ao_I, ao_L, ao_R, gL_sL, gI_sI, gR_sR, gI_sL, gI_sR, gL_sI, gL_sR, gR_sI, gR_sL, Int.reduceEq, t69, oneI, g0, T569, b1, p7, p71, p9, p91, iL_m1, xor_all]
        · rw [rC_sL, if_neg (by decide), rC_sL, if_neg (by decide), rC_sL, if_pos rfl, rC_sL, if_pos rfl, r47]
          show _ = (if isC y ∧ true = true ∧ jV y &&& (jV y - 1#64) = 0#64 then ((jV x ||| jV y, jM x &&& ~~~ jV y, jA x, jB x, jC x, jD x), y) else if isC y ∧ true = false then ((jV x, jM x &&& ~~~ jV y, jA x, jB x, jC x, jD x), y) else (x, y)).1
          rw [if_pos ⟨cy, rfl, bc_one b1⟩]
          rfl
        · rw [rC_sL, if_neg (by decide), rC_sL, if_neg (by decide), rC_sL, if_neg (by decide), rC_sL, if_neg (by decide), r48]
          show _ = (if isC y ∧ true = true ∧ jV y &&& (jV y - 1#64) = 0#64 then ((jV x ||| jV y, jM x &&& ~~~ jV y, jA x, jB x, jC x, jD x), y) else if isC y ∧ true = false then ((jV x, jM x &&& ~~~ jV y, jA x, jB x, jC x, jD x), y) else (x, y)).2
          rw [if_pos ⟨cy, rfl, bc_one b1⟩]
        · rw [rC_sL, if_pos rfl, rC_sL, if_pos rfl, rC_sL, if_neg (by decide), rC_sL, if_neg (by decide), r49, if_pos ⟨rfl, cy⟩]
          rfl
        · rw [rC_sL, if_neg (by decide), rC_sL, if_neg (by decide), rC_sL, if_neg (by decide), rC_sL, if_neg (by decide), r50]
          show _ = (if isC y ∧ false = true ∧ jV y &&& (jV y - 1#64) = 0#64 then ((jV x ||| jV y, jM x &&& ~~~ jV y, jA x, jB x, jC x, jD x), y) else if isC y ∧ false = false then ((jV x, jM x &&& ~~~ jV y, jA x, jB x, jC x, jD x), y) else (x, y)).2
          rw [if_neg (fun z => by cases z.2.1), if_pos ⟨cy, rfl⟩]
      · have y1 : (narN 64 true x y) = (x, y) ∨ (narN 64 true x y) = (x, y) := by
          left
          show (if isC y ∧ true = true ∧ jV y &&& (jV y - 1#64) = 0#64 then ((jV x ||| jV y, jM x &&& ~~~ jV y, jA x, jB x, jC x, jD x), y) else if isC y ∧ true = false then ((jV x, jM x &&& ~~~ jV y, jA x, jB x, jC x, jD x), y) else (x, y)) = (x, y)
          by_cases pz : jV y &&& (jV y - 1#64) = 0#64
          · have y0 : jV y = 0#64 := Classical.byContradiction fun z => b1 (bc_pow pz z)
            rw [if_pos ⟨cy, rfl, pz⟩, y0]
            have o1 : jV x ||| 0#64 = jV x := by simp
            have o2 : jM x &&& ~~~ 0#64 = jM x := by rw [show ~~~ (0#64) = BitVec.allOnes 64 by decide, BitVec.and_allOnes]
            rw [o1, o2]
          · rw [if_neg (fun z => pz z.2.2), if_neg (fun z => by cases z.2)]
        have y1 := y1.elim id id
        refine okc_o (τ := sL (sL ρ 49 0 (jV x &&& ~~~ jV y)) 49 1 (jM x &&& ~~~ jV y)) ?_ ⟨⟨⟨?_, ?_⟩, ?_, ?_⟩, nfq_t (nfq_l (by omega)) (nfq_t (nfq_l (by omega)) q0)⟩
        · simp only [e274_44, e274_182, e274_298, M278, e278_0, e278_7, e278_21, e278_67, Option.getD_some, Option.bind_some, Option.toList_some, Option.toList_none, List.cons_append, List.nil_append, and_self, and_true, true_and, false_and, and_false, ite_self, not_true_eq_false, not_false_eq_true, reduceIte, Nat.reduceEqDiff, ab_I, ab_L, ab_R, ao_I, ao_L, ao_R, gL_sL, gI_sI, gR_sR, gI_sL, gI_sR, gL_sI, gL_sR, gR_sI, gR_sL, Int.reduceEq, t69, oneI, g0, T569, b1, p7, p71, p9, p91, iL_m1, xor_all]
        · rw [rC_sL, if_neg (by decide), rC_sL, if_neg (by decide), r47, y1]
        · rw [rC_sL, if_neg (by decide), rC_sL, if_neg (by decide), r48, y1]
        · rw [rC_sL, if_pos rfl, rC_sL, if_pos rfl, r49, if_pos ⟨rfl, cy⟩]
          rfl
        · rw [rC_sL, if_neg (by decide), rC_sL, if_neg (by decide), r50]
          show _ = (if isC y ∧ false = true ∧ jV y &&& (jV y - 1#64) = 0#64 then ((jV x ||| jV y, jM x &&& ~~~ jV y, jA x, jB x, jC x, jD x), y) else if isC y ∧ false = false then ((jV x, jM x &&& ~~~ jV y, jA x, jB x, jC x, jD x), y) else (x, y)).2
          rw [if_neg (fun z => by cases z.2.1), if_pos ⟨cy, rfl⟩]
    · rw [b2_no cy] at t69
      have yn : ∀ is : Bool, narN 64 is x y = (x, y) := fun is => by
        show (if isC y ∧ is = true ∧ jV y &&& (jV y - 1#64) = 0#64 then ((jV x ||| jV y, jM x &&& ~~~ jV y, jA x, jB x, jC x, jD x), y) else if isC y ∧ is = false then ((jV x, jM x &&& ~~~ jV y, jA x, jB x, jC x, jD x), y) else (x, y)) = (x, y)
        rw [if_neg (fun z => cy z.1), if_neg (fun z => cy z.1)]
      refine okc_o (τ := ρ) ?_ ⟨⟨⟨?_, ?_⟩, ?_, ?_⟩, q0⟩
      · simp only [e274_44, e274_182, e274_298, M278, e278_0, e278_7, Option.getD_some, Option.bind_some, Option.toList_some, Option.toList_none, List.cons_append, List.nil_append, and_self, and_true, true_and, false_and, and_false, ite_self, not_true_eq_false, not_false_eq_true, reduceIte, Nat.reduceEqDiff, ab_I, ab_L, ab_R, ao_I, ao_L, ao_R, gL_sL, gI_sI, gR_sR, gI_sL, gI_sR, gL_sI, gL_sR, gR_sI, gR_sL, Int.reduceEq, t69]
      · rw [yn, r47]
      · rw [yn, r48]
      · rw [if_neg (fun z => cy z.2), yn, r49]
      · rw [yn, r50]
  · -- 80
    have hb := hb (Or.inr rfl)
    obtain ⟨ρ1, t76, ⟨a1, a2⟩, a3, a4, a5⟩ := T276 (σ := ρ) (p := 47) (q := 48) (kc_47 _) (kc_48 _) (by decide) (by rw [r47, r48]; exact hb)
    rw [r47, r48] at a1 a2
    have kp : ∀ i, ¬ i = 47 → ¬ i = 48 → rC ρ1 i = rC ρ i := fun i h1 h2 => by
      unfold rC
      rw [a4 i _ h1 h2, a4 i _ h1 h2, a4 i _ h1 h2, a4 i _ h1 h2, a4 i _ h1 h2, a4 i _ h1 h2]
    have e49 : rC ρ1 49 = x := by rw [kp 49 (by decide) (by decide), r49]
    have e50 : rC ρ1 50 = y := by rw [kp 50 (by decide) (by decide), r50]
    have k49 : isNm ρ1 49 := rfl
    have k50 : isNm ρ1 50 := rfl
    have t75 := T275 (σ := ρ1) (p := 49) (q := 50) k49 k50 (by decide)
    rw [e49, e50] at t75
    refine okc_o (τ := wC (wC ρ1 49 (bothN x y)) 50 (bothN x y)) ?_ ⟨nrP_n (by decide) ?_ ?_ ?_ ?_, nfq_t (nfq_w (by omega)) (nfq_t (nfq_w (by omega)) (nfq_t ⟨a3, fun k s h => a4 k s (by omega) (by omega), a5⟩ q0))⟩
    · simp only [e274_44, e274_164, e274_175, e274_298, Option.getD_some, Option.bind_some, Option.toList_some, Option.toList_none, List.cons_append, List.nil_append, and_self, and_true, true_and, false_and, and_false, ite_self, not_true_eq_false, not_false_eq_true, reduceIte, Nat.reduceEqDiff, ab_I, ab_L, ab_R, ao_I, ao_L, ao_R, gL_sL, gI_sI, gR_sR, gI_sL, gI_sR, gL_sI, gL_sR, gR_sI, gR_sL, Int.reduceEq, t75, t76]
    · rw [rC_wC, if_neg (by decide), rC_wC, if_neg (by decide), a1]; rfl
    · rw [rC_wC, if_neg (by decide), rC_wC, if_neg (by decide), a2]; rfl
    · rw [rC_wC, if_neg (by decide), rC_wC, if_pos rfl]; rfl
    · rw [rC_wC, if_pos rfl]; rfl
  · obtain ⟨τ1, τ2, t1, t2, qq, a1, a2, a3, a4⟩ := ords 47 48 50 49 1 0 (Or.inl ⟨rfl, rfl⟩) (Or.inl ⟨rfl, rfl⟩)
    rw [r47, r48] at a1 a2
    rw [r49, r50] at a3 a4
    have s0 : b2 (isSgn 96) = 1 := b2_yes (by decide)
    refine okc_o (τ := τ2) ?_ ⟨nrP_n (by decide) a1 a2 a4 a3, qq⟩
    simp only [e274_44, e274_198, e274_211, e274_298, Option.getD_some, Option.bind_some, Option.toList_some, Option.toList_none, List.cons_append, List.nil_append, and_self, and_true, true_and, false_and, and_false, ite_self, not_true_eq_false, not_false_eq_true, reduceIte, Nat.reduceEqDiff, ab_I, ab_L, ab_R, ao_I, ao_L, ao_R, gL_sL, gI_sI, gR_sR, gI_sL, gI_sR, gL_sI, gL_sR, gR_sI, gR_sL, Int.reduceEq, s0, t1, t2]
  · obtain ⟨τ1, τ2, t1, t2, qq, a1, a2, a3, a4⟩ := ords 47 48 50 49 0 1 (Or.inl ⟨rfl, rfl⟩) (Or.inl ⟨rfl, rfl⟩)
    rw [r47, r48] at a1 a2
    rw [r49, r50] at a3 a4
    have s0 : b2 (isSgn 112) = 1 := b2_yes (by decide)
    refine okc_o (τ := τ2) ?_ ⟨nrP_n (by decide) a1 a2 a4 a3, qq⟩
    simp only [e274_44, e274_227, e274_240, e274_298, Option.getD_some, Option.bind_some, Option.toList_some, Option.toList_none, List.cons_append, List.nil_append, and_self, and_true, true_and, false_and, and_false, ite_self, not_true_eq_false, not_false_eq_true, reduceIte, Nat.reduceEqDiff, ab_I, ab_L, ab_R, ao_I, ao_L, ao_R, gL_sL, gI_sI, gR_sR, gI_sL, gI_sR, gL_sI, gL_sR, gR_sI, gR_sL, Int.reduceEq, s0, t1, t2]
  · obtain ⟨τ1, τ2, t1, t2, qq, a1, a2, a3, a4⟩ := ordu 48 47 49 50 1 0 (Or.inr ⟨rfl, rfl⟩) (Or.inr ⟨rfl, rfl⟩)
    rw [r47, r48] at a1 a2
    rw [r49, r50] at a3 a4
    have s0 : b2 (isSgn 160) = 0 := b2_no (by decide)
    refine okc_o (τ := τ2) ?_ ⟨nrP_n (by decide) a2 a1 a3 a4, qq⟩
    simp only [e274_44, e274_256, e274_269, e274_298, Option.getD_some, Option.bind_some, Option.toList_some, Option.toList_none, List.cons_append, List.nil_append, and_self, and_true, true_and, false_and, and_false, ite_self, not_true_eq_false, not_false_eq_true, reduceIte, Nat.reduceEqDiff, ab_I, ab_L, ab_R, ao_I, ao_L, ao_R, gL_sL, gI_sI, gR_sR, gI_sL, gI_sR, gL_sI, gL_sR, gR_sI, gR_sL, Int.reduceEq, s0, t1, t2]
  · obtain ⟨τ1, τ2, t1, t2, qq, a1, a2, a3, a4⟩ := ordu 48 47 49 50 0 1 (Or.inr ⟨rfl, rfl⟩) (Or.inr ⟨rfl, rfl⟩)
    rw [r47, r48] at a1 a2
    rw [r49, r50] at a3 a4
    have s0 : b2 (isSgn 176) = 0 := b2_no (by decide)
    refine okc_o (τ := τ2) ?_ ⟨nrP_n (by decide) a2 a1 a3 a4, qq⟩
    simp only [e274_44, e274_285, e274_298, Option.getD_some, Option.bind_some, Option.toList_some, Option.toList_none, List.cons_append, List.nil_append, and_self, and_true, true_and, false_and, and_false, ite_self, not_true_eq_false, not_false_eq_true, reduceIte, Nat.reduceEqDiff, ab_I, ab_L, ab_R, ao_I, ao_L, ao_R, gL_sL, gI_sI, gR_sR, gI_sL, gI_sR, gL_sI, gL_sR, gR_sI, gR_sL, Int.reduceEq, s0, t1, t2]
  · obtain ⟨τ1, τ2, t1, t2, qq, a1, a2, a3, a4⟩ := ords 48 47 49 50 1 0 (Or.inr ⟨rfl, rfl⟩) (Or.inr ⟨rfl, rfl⟩)
    rw [r47, r48] at a1 a2
    rw [r49, r50] at a3 a4
    have s0 : b2 (isSgn 192) = 1 := b2_yes (by decide)
    refine okc_o (τ := τ2) ?_ ⟨nrP_n (by decide) a2 a1 a3 a4, qq⟩
    simp only [e274_44, e274_256, e274_269, e274_298, Option.getD_some, Option.bind_some, Option.toList_some, Option.toList_none, List.cons_append, List.nil_append, and_self, and_true, true_and, false_and, and_false, ite_self, not_true_eq_false, not_false_eq_true, reduceIte, Nat.reduceEqDiff, ab_I, ab_L, ab_R, ao_I, ao_L, ao_R, gL_sL, gI_sI, gR_sR, gI_sL, gI_sR, gL_sI, gL_sR, gR_sI, gR_sL, Int.reduceEq, s0, t1, t2]
  · obtain ⟨τ1, τ2, t1, t2, qq, a1, a2, a3, a4⟩ := ords 48 47 49 50 0 1 (Or.inr ⟨rfl, rfl⟩) (Or.inr ⟨rfl, rfl⟩)
    rw [r47, r48] at a1 a2
    rw [r49, r50] at a3 a4
    have s0 : b2 (isSgn 208) = 1 := b2_yes (by decide)
    refine okc_o (τ := τ2) ?_ ⟨nrP_n (by decide) a2 a1 a3 a4, qq⟩
    simp only [e274_44, e274_285, e274_298, Option.getD_some, Option.bind_some, Option.toList_some, Option.toList_none, List.cons_append, List.nil_append, and_self, and_true, true_and, false_and, and_false, ite_self, not_true_eq_false, not_false_eq_true, reduceIte, Nat.reduceEqDiff, ab_I, ab_L, ab_R, ao_I, ao_L, ao_R, gL_sL, gI_sI, gR_sR, gI_sL, gI_sR, gL_sI, gL_sR, gR_sI, gR_sL, Int.reduceEq, s0, t1, t2]
end CNRW
-- FILE 92.cgj
/-! ===== the class's jumps ===== -/
section CGJ
variable {τ σ ρ : MS} {k j : Nat} {E : EV} {w : B64} {S T : ST} {t n g : Int} {x y : N6} {i : Int}
theorem T241f (H : SC σ k j E w) (f3 : gI σ k 3 = (sF S : Int)) (hF : 1 ≤ sF S ∧ sF S ≤ 4) (hd : fD w ≤ 10) : MM 241 [mR (some 40)] σ = some (some (mI ((pR S (dR w) : Nat) : Int)), σ) := by
  have f := (fld_rng w).2.1
  have e : (dR w : Int) = fD w := by show ((fD w).toNat : Int) = _; omega
  have t := T212 (r := dR w) (sc_k H) f3 hF (dR_10 hd)
  rw [e] at t
  simp only [M241, e241_0, e241_11, e241_14, Option.getD_some, Option.bind_some, Option.toList_some, Option.toList_none, List.cons_append, List.nil_append, and_self, and_true, true_and, false_and, and_false, ite_self, not_true_eq_false, not_false_eq_true, reduceIte, Nat.reduceEqDiff, ab_I, ab_L, ab_R, ao_I, ao_L, ao_R, gL_sL, gI_sI, gR_sR, gI_sL, gI_sR, gL_sI, gL_sR, gR_sI, gR_sL, sc_w H, T1, sc_h H, sc_ao H, t]
theorem T242f (H : SC σ k j E w) (f3 : gI σ k 3 = (sF S : Int)) (hF : 1 ≤ sF S ∧ sF S ≤ 4) (hs : fS w ≤ 10) : MM 242 [mR (some 40)] σ = some (some (mI ((pR S (sRr w) : Nat) : Int)), σ) := by
  have f := (fld_rng w).2.2.1
  have e : (sRr w : Int) = fS w := by show ((fS w).toNat : Int) = _; omega
  have t := T212 (r := sRr w) (sc_k H) f3 hF (sR_10 hs)
  rw [e] at t
  simp only [M242, e242_0, e242_11, e242_14, Option.getD_some, Option.bind_some, Option.toList_some, Option.toList_none, List.cons_append, List.nil_append, and_self, and_true, true_and, false_and, and_false, ite_self, not_true_eq_false, not_false_eq_true, reduceIte, Nat.reduceEqDiff, ab_I, ab_L, ab_R, ao_I, ao_L, ao_R, gL_sL, gI_sI, gR_sR, gI_sL, gI_sR, gL_sI, gL_sR, gR_sI, gR_sL, sc_w H, T2, sc_h H, sc_ao H, t]
theorem sfq_j (hd : k + 3 < j ∨ j + 3 < k) (q : csq τ σ j) : sfq τ σ k j := ⟨fun k' s _ _ r => q.1 k' s (by omega) (by omega) (by omega), fun k' s _ _ r => q.2.1 k' s r, fun k' s _ => gR_r q.2.2, by rw [q.2.2]⟩
/-- the sides come to a state -/
theorem T281 {s p q : Nat} {fx : Int} (H : SC σ k j E w) (f3 : gI σ k 3 = (sF T : Int)) (hs : s = k ∨ s = j) (hT : CSt σ s T) (hF : 1 ≤ sF T ∧ sF T ≤ 4) (hd : fD w ≤ 9) (hsr : fx = 0 → fS w ≤ 9) (hp : isNm σ p) (hq : isNm σ q) (hp2 : 42 ≤ p ∧ p ≤ 50) (hq2 : 42 ≤ q ∧ q ≤ 50) :
    okc (MM 281 [mR (some 40), mR (some s), mR (some p), mR (some q), mI fx] σ) none (fun τ => CSt τ s (if fx = 0 then wV (wV T (dR w) (numV (rC σ p))) (sRr w) (numV (rC σ q)) else wV T (dR w) (numV (rC σ p))) ∧ crq τ σ s) := by
  have dd := H.1.2.1
  have sc : stC s := by rcases hs with h | h <;> rw [h]
                        · exact H.1.2.2.1
                        · exact H.1.2.2.2
  have ss : isSt σ s := by rcases hs with h | h <;> rw [h]
                           · exact H.1.1.1
                           · exact H.1.1.2
  have d9 : dR w ≤ 9 := by have := dR_9 hd; omega
  have t41 := T241f H f3 hF (show fD w ≤ 10 by omega)
  obtain ⟨τ1, t18, q18⟩ := T218 (j := p) (pl := pR T (dR w)) ss hp (by omega) (pR_lt hF (by omega))
  have c1 := CSt_w hF hT d9 q18
  have cq := crq_c q18
  have sq : sfq τ1 σ k j := by
    rcases hs with h | h
    · subst h
      exact sfq_c cq
    · subst h
      exact sfq_j dd (csq_c cq)
  have H1 := SC_q sq H
  have f31 : gI τ1 k 3 = (sF T : Int) := (cq.1 _ _).trans f3
  have as : ao σ 8 (some s) = True := aoS ss
  by_cases f0 : fx = 0
  · rw [if_pos f0]
    have hs9 := hsr f0
    have s9 : sRr w ≤ 9 := by have := (fld_rng w).2.2.1; show (fS w).toNat ≤ 9; omega
    have t42 := T242f H1 f31 hF (show fS w ≤ 10 by omega)
    have ss1 : isSt τ1 s := st_r q18.2.2.1 ss
    obtain ⟨τ2, t18b, q18b⟩ := T218 (j := q) (pl := pR T (sRr w)) ss1 ((kd_r q18.2.2.1).trans hq) (by omega) (pR_lt hF (by omega))
    have rq : rC τ1 q = rC σ q := by
      have e : ∀ i, gL τ1 q i = gL σ q i := fun i => cq.2.1 _ _ (by omega)
      unfold rC
      rw [e, e, e, e, e, e]
    rw [rq] at q18b
    have c2 := CSt_w (S := wV T (dR w) (numV (rC σ p))) hF c1 s9 q18b
    have as1 : ao τ1 8 (some s) = True := aoS ss1
    refine okc_o (τ := τ2) ?_ ⟨c2, crq_t (crq_c q18b) cq⟩
    simp only [M281, e281_0, e281_5, e281_9, e281_19, e281_23, Option.getD_some, Option.bind_some, Option.toList_some, Option.toList_none, List.cons_append, List.nil_append, and_self, and_true, true_and, false_and, and_false, ite_self, not_true_eq_false, not_false_eq_true, reduceIte, Nat.reduceEqDiff, ab_I, ab_L, ab_R, ao_I, ao_L, ao_R, gL_sL, gI_sI, gR_sR, gI_sL, gI_sR, gL_sI, gL_sR, gR_sI, gR_sL, t41, as, t18, f0, t42, as1, t18b]
  · rw [if_neg f0]
    refine okc_o (τ := τ1) ?_ ⟨c1, cq⟩
    simp only [M281, e281_0, e281_5, e281_9, e281_23, Option.getD_some, Option.bind_some, Option.toList_some, Option.toList_none, List.cons_append, List.nil_append, and_self, and_true, true_and, false_and, and_false, ite_self, not_true_eq_false, not_false_eq_true, reduceIte, Nat.reduceEqDiff, ab_I, ab_L, ab_R, ao_I, ao_L, ao_R, gL_sL, gI_sI, gR_sR, gI_sL, gI_sR, gL_sI, gL_sR, gR_sI, gR_sL, t41, as, t18, f0]
theorem decX_r {c : Int} {x y : N6} : decX c x y = 1 ∨ decX c x y = 0 ∨ decX c x y = -1 := by
  have a : ∀ x y, aboN x y = 1 ∨ aboN x y = 0 ∨ aboN x y = -1 := fun x y => by
    unfold aboN
    repeat' split
    all_goals simp
  have b : ∀ x y, nblN x y = 1 ∨ nblN x y = 0 ∨ nblN x y = -1 := fun x y => by
    unfold nblN
    repeat' split
    all_goals simp
  have a' : ∀ x y, aboS x y = 1 ∨ aboS x y = 0 ∨ aboS x y = -1 := fun x y => by
    unfold aboS
    repeat' split
    all_goals simp
  have b' : ∀ x y, nblS x y = 1 ∨ nblS x y = 0 ∨ nblS x y = -1 := fun x y => by
    unfold nblS
    repeat' split
    all_goals simp
  have e := equN_r x y
  unfold decX
  split
  · exact e
  · split
    · split
      · omega
      · omega
    · split
      · repeat' split
        all_goals simp
      · split
        · exact a _ _
        · split
          · exact b _ _
          · split
            · exact a _ _
            · split
              · exact b _ _
              · split
                · exact a' _ _
                · split
                  · exact b' _ _
                  · split
                    · exact a' _ _
                    · exact b' _ _
theorem decN_r {c : Int} {b : Bool} {x y : N6} : decN c b x y = 1 ∨ decN c b x y = 0 ∨ decN c b x y = -1 := by
  unfold decN
  split
  · exact decX_r
  · split
    · repeat' split
      all_goals simp
    · exact decX_r
/-- the right side's number -/
abbrev sdN (S : ST) (w : B64) : N6 := vn (sidJ S w)
theorem sd_w (h : widJ w) : sdN S w = vn (rgtV S w) := by
  unfold sdN sidJ rgtV immJ
  split
  · rfl
  · rw [if_pos h]
theorem sd_r (h : rgt w) : sidJ S w = rgtV S w := by
  unfold sidJ rgtV
  rw [if_pos h, if_pos h]
theorem sd_i (h : ¬ rgt w) : sidJ S w = numV (cstN (immJ w)) := if_neg h
theorem sd_k : vk (sidJ S w) = vk (rgtV S w) := by
  unfold sidJ rgtV
  split <;> rfl
theorem sd_c (h : ¬ widJ w) : cutT (sdN S w) = cutT (vn (rgtV S w)) := by
  by_cases r : rgt w
  · unfold sdN
    rw [sd_r r]
  · unfold sdN rgtV
    rw [sd_i r, if_neg r]
    show cutT (cstN (immJ w)) = cutT (cstN (BitVec.ofInt 64 (fI w)))
    unfold immJ
    rw [if_neg h, cutT_cst, cutT_cst, cF_cF]
/-- where a way waits though nothing is known by it -/
abbrev ptC (S : ST) (w : B64) (x y : N6) : Prop := (rgt w ∧ fD w = fS w) ∨ ¬ (widJ w ∨ ¬ isSgn (fC w) ∧ ¬ cF < jB x ∧ ¬ cF < jB y)
theorem cF_hi (b : B64) : (lUsh b 32 = BitVec.ofNat 64 0) = ¬ cF < b := by
  rw [show lUsh b 32 = lUsh b ((32 : Nat) : Int) from rfl, lUsh_k b (by decide), BitVec.lt_def, cF_toNat]
  apply propext
  constructor
  · intro h
    have := congrArg BitVec.toNat h
    rw [BitVec.toNat_ushiftRight, Nat.shiftRight_eq_div_pow] at this
    have this : b.toNat / 4294967296 = 0 := this
    omega
  · intro h
    apply BitVec.eq_of_toNat_eq
    rw [BitVec.toNat_ushiftRight, Nat.shiftRight_eq_div_pow]
    show b.toNat / 4294967296 = 0
    omega
/-- numbers, before they are narrowed -/
theorem T267 (H : SC σ k j E w) (hS : CSt σ k S) (P : PX S E t) (ht : gI σ 40 8 = t) (h4 : gI σ 40 4 = n) (h5 : gI σ 40 5 = g) (h3 : gI σ 40 3 = 0) (hl : ak σ 2 (gR σ k 6)) (hd : fD w ≤ 10) (hs : rgt w → fS w ≤ 10) (hc : isCmp (fC w)) (h56 : fL w = 5 ∨ fL w = 6) (kL : vk (rgV S (dR w)) = 1) (kR : vk (sidJ S w) = 1) :
    okc (MM 267 [mR (some 40), mI (fC w), mI (b2 (widJ w))] σ) (some (mI 1)) (fun τ => spj σ τ k j (numJ S w g n t))
    ∨ ((decN (fC w) (decide (widJ w)) (vn (rgV S (dR w))) (sdN S w) = -1 ∧ ¬ ptC S w (vn (rgV S (dR w))) (sdN S w)) ∧ okc (MM 267 [mR (some 40), mI (fC w), mI (b2 (widJ w))] σ) (some (mI 0)) (fun τ => nfq τ σ ∧ rC τ 42 = vn (rgV S (dR w)) ∧ rC τ 43 = sdN S w)) := by
  have F := PX_F P
  have sc := sc_c H
  obtain ⟨X, Y, t48, eX, eY⟩ := T248 H hS P hd hs
  have eX := eX (by omega)
  have eY := eY (fun r => by
    have e : rgtV S w = rgV S (sRr w) := if_pos r
    rw [← e, ← sd_k]
    omega)
  subst eX eY
  obtain ⟨c, hcc⟩ : ∃ c, c = fC w := ⟨_, rfl⟩
  rw [← hcc] at hc ⊢
  obtain ⟨σ1, hσ1⟩ : ∃ σ1, σ1 = wC (wC (wC (wC σ 42 (vn (rgV S (dR w)))) 43 (vn (rgtV S w))) 45 (vn (rgV S (dR w)))) 46 (vn (rgtV S w)) := ⟨_, rfl⟩
  have t66a := T66 (σ := wC (wC σ 42 (vn (rgV S (dR w)))) 43 (vn (rgtV S w))) (k := 45) (j := 42) (kc_45 _) (kc_42 _) (by decide)
  rw [rC_wC, if_neg (by decide), rC_wC, if_pos rfl] at t66a
  have t66b := T66 (σ := wC (wC (wC σ 42 (vn (rgV S (dR w)))) 43 (vn (rgtV S w))) 45 (vn (rgV S (dR w)))) (k := 46) (j := 43) (kc_46 _) (kc_43 _) (by decide)
  rw [rC_wC, if_neg (by decide), rC_wC, if_pos rfl] at t66b
  rw [← hσ1] at t66b
  have q1 : nfq σ1 σ := by rw [hσ1]; exact nfq_t (nfq_w (by omega)) (nfq_t (nfq_w (by omega)) (nfq_t (nfq_w (by omega)) (nfq_w (by omega))))
  have r42 : rC σ1 42 = vn (rgV S (dR w)) := by rw [hσ1, rC_wC, if_neg (by decide), rC_wC, if_neg (by decide), rC_wC, if_neg (by decide), rC_wC, if_pos rfl]
  have r43 : rC σ1 43 = vn (rgtV S w) := by rw [hσ1, rC_wC, if_neg (by decide), rC_wC, if_neg (by decide), rC_wC, if_pos rfl]
  have r45 : rC σ1 45 = vn (rgV S (dR w)) := by rw [hσ1, rC_wC, if_neg (by decide), rC_wC, if_pos rfl]
  have r46 : rC σ1 46 = vn (rgtV S w) := by rw [hσ1, rC_wC, if_pos rfl]
  have s31 : MM 267 [mR (some 40), mI c, mI (b2 (widJ w))] σ = RR (lkB tb267) (B267_31, [some (mR (some 40)), some (mI c), some (mI (b2 (widJ w))), some (mI (b2 (isSgn c))), none, none], [], σ1) := by
    simp only [M267, e267_0, e267_4, e267_8, e267_20, Option.getD_some, Option.bind_some, Option.toList_some, Option.toList_none, List.cons_append, List.nil_append, and_self, and_true, true_and, false_and, and_false, ite_self, not_true_eq_false, not_false_eq_true, reduceIte, Nat.reduceEqDiff, ab_I, ab_L, ab_R, ao_I, ao_L, ao_R, gL_sL, gI_sI, gR_sR, gI_sL, gI_sR, gL_sI, gL_sR, gR_sI, gR_sL, t48, T266, t66a, t66b]
  clear hσ1 t48 t66a t66b
  -- the verdict
  obtain ⟨ρ, s84, qρ, p42, p43, p46⟩ : ∃ ρ, RR (lkB tb267) (B267_31, [some (mR (some 40)), some (mI c), some (mI (b2 (widJ w))), some (mI (b2 (isSgn c))), none, none], [], σ1) = RR (lkB tb267) (B267_84, [some (mR (some 40)), some (mI c), some (mI (b2 (widJ w))), some (mI (b2 (isSgn c))), none, none], [mI (decN c (decide (widJ w)) (vn (rgV S (dR w))) (sdN S w))], ρ) ∧ nfq ρ σ ∧ rC ρ 42 = vn (rgV S (dR w)) ∧ rC ρ 43 = vn (rgtV S w) ∧ (¬ rgt w → rC ρ 46 = sdN S w) := by
    by_cases wd : widJ w
    · have dn : decN c (decide (widJ w)) (vn (rgV S (dR w))) (sdN S w) = decX c (vn (rgV S (dR w))) (vn (rgtV S w)) := by
        unfold decN
        rw [if_pos (decide_eq_true wd), sd_w wd]
      have t68 := T268 (σ := σ1) (c := c) (p := 45) (q := 46) hc (kc_45 _) (kc_46 _)
      rw [r45, r46] at t68
      refine ⟨σ1, ?_, q1, r42, r43, fun _ => by rw [r46, sd_w wd]⟩
      rw [dn, b2_yes wd]
      simp only [e267_31, e267_57, e267_65, e267_77, Option.getD_some, Option.bind_some, Option.toList_some, Option.toList_none, List.cons_append, List.nil_append, and_self, and_true, true_and, false_and, and_false, ite_self, not_true_eq_false, not_false_eq_true, reduceIte, Nat.reduceEqDiff, ab_I, ab_L, ab_R, ao_I, ao_L, ao_R, gL_sL, gI_sI, gR_sR, gI_sL, gI_sR, gL_sI, gL_sR, gR_sI, gR_sL, oneI, t68]
    · have t75a := T75 (σ := σ1) (k := 45) (j := 42) (kc_45 _) (kc_42 _) (by decide)
      rw [r42] at t75a
      have t75b := T75 (σ := wC σ1 45 (cutT (vn (rgV S (dR w))))) (k := 46) (j := 43) (kc_46 _) (kc_43 _) (by decide)
      rw [rC_wC, if_neg (by decide), r43] at t75b
      obtain ⟨ρ, hρ⟩ : ∃ ρ, ρ = wC (wC σ1 45 (cutT (vn (rgV S (dR w))))) 46 (cutT (vn (rgtV S w))) := ⟨_, rfl⟩
      rw [← hρ] at t75b
      have u45 : rC ρ 45 = cutT (vn (rgV S (dR w))) := by rw [hρ, rC_wC, if_neg (by decide), rC_wC, if_pos rfl]
      have u46 : rC ρ 46 = cutT (vn (rgtV S w)) := by rw [hρ, rC_wC, if_pos rfl]
      have u42 : rC ρ 42 = vn (rgV S (dR w)) := by rw [hρ, rC_wC, if_neg (by decide), rC_wC, if_neg (by decide), r42]
      have u43 : rC ρ 43 = vn (rgtV S w) := by rw [hρ, rC_wC, if_neg (by decide), rC_wC, if_neg (by decide), r43]
      have qρ : nfq ρ σ := by rw [hρ]; exact nfq_t (nfq_w (by omega)) (nfq_t (nfq_w (by omega)) q1)
      have e46 : ¬ rgt w → rC ρ 46 = sdN S w := fun r => by
        rw [u46, ← sd_c wd]
        show cutT (vn (sidJ S w)) = vn (sidJ S w)
        rw [sd_i r]
        show cutT (cstN (immJ w)) = cstN (immJ w)
        rw [cutT_cst]
        unfold immJ
        rw [if_neg wd, cF_cF]
      by_cases sg : isSgn c
      · have dn : decN c (decide (widJ w)) (vn (rgV S (dR w))) (sdN S w) = (if isC (cutT (vn (rgV S (dR w)))) ∧ isC (cutT (vn (rgtV S w))) then (if cmpB c false (jV (cutT (vn (rgV S (dR w))))) (jV (cutT (vn (rgtV S w)))) = true then 1 else 0) else -1) := by
          unfold decN
          rw [decide_eq_false wd, if_neg (by decide), if_pos sg, sd_c wd]
        have t73 := T273 (σ := ρ) (w := w) (x := vn (rgV S (dR w))) (y := vn (rgtV S w)) (sc_p (SC_n qρ H)) (by rw [← hcc]; exact hc) (by
          rcases h56 with h | h
          · exact absurd h wd
          · exact h) u45 u46
        rw [← hcc, ← dn] at t73
        refine ⟨ρ, ?_, qρ, u42, u43, e46⟩
        rw [b2_no wd, b2_yes sg]
        simp only [e267_31, e267_46, e267_57, Option.getD_some, Option.bind_some, Option.toList_some, Option.toList_none, List.cons_append, List.nil_append, and_self, and_true, true_and, false_and, and_false, ite_self, not_true_eq_false, not_false_eq_true, reduceIte, Nat.reduceEqDiff, ab_I, ab_L, ab_R, ao_I, ao_L, ao_R, gL_sL, gI_sI, gR_sR, gI_sL, gI_sR, gL_sI, gL_sR, gR_sI, gR_sL, oneI, t75a, t75b, t73]
      · have dn : decN c (decide (widJ w)) (vn (rgV S (dR w))) (sdN S w) = decX c (cutT (vn (rgV S (dR w)))) (cutT (vn (rgtV S w))) := by
          unfold decN
          rw [decide_eq_false wd, if_neg (by decide), if_neg sg, sd_c wd]
        have t68 := T268 (σ := ρ) (c := c) (p := 45) (q := 46) hc (kc_45 _) (kc_46 _)
        rw [u45, u46] at t68
        refine ⟨ρ, ?_, qρ, u42, u43, e46⟩
        rw [dn, b2_no wd, b2_no sg]
        simp only [e267_31, e267_46, e267_57, e267_65, e267_77, Option.getD_some, Option.bind_some, Option.toList_some, Option.toList_none, List.cons_append, List.nil_append, and_self, and_true, true_and, false_and, and_false, ite_self, not_true_eq_false, not_false_eq_true, reduceIte, Nat.reduceEqDiff, ab_I, ab_L, ab_R, ao_I, ao_L, ao_R, gL_sL, gI_sI, gR_sR, gI_sL, gI_sR, gL_sI, gL_sR, gR_sI, gR_sL, t75a, t75b, t68]
  rw [s31, s84]
  clear s31 s84
  have Hρ := SC_n qρ H
  have Sρ := CSt_n sc qρ hS
  have g4 : gI ρ 40 4 = n := (qρ.1 _ _).trans h4
  have g5 : gI ρ 40 5 = g := (qρ.1 _ _).trans h5
  have g3 : gI ρ 40 3 = 0 := (qρ.1 _ _).trans h3
  have g8 : gI ρ 40 8 = t := (qρ.1 _ _).trans ht
  unfold numJ
  rw [← hcc]
  generalize hv : decN c (decide (widJ w)) (vn (rgV S (dR w))) (vn (sidJ S w)) = v
  have hv3 : v = 1 ∨ v = 0 ∨ v = -1 := by rw [← hv]; exact decN_r
  rcases hv3 with v1 | v0 | vm
  · subst v1
    left
    rw [if_pos rfl]
    refine okc_o (τ := sI ρ 40 4 (gI ρ 40 5)) ?_ ⟨sfq_t (sfq_i (by omega)) (sfq_n qρ), fun _ => ⟨?_, CSt_i sc Sρ, ?_, ?_⟩⟩
    · simp only [e267_84, Option.getD_some, Option.bind_some, Option.toList_some, Option.toList_none, List.cons_append, List.nil_append, and_self, and_true, true_and, false_and, and_false, ite_self, not_true_eq_false, not_false_eq_true, reduceIte, Nat.reduceEqDiff, ab_I, ab_L, ab_R, ao_I, ao_L, ao_R, gL_sL, gI_sI, gR_sR, gI_sL, gI_sR, gL_sI, gL_sR, gR_sI, gR_sL, Int.reduceEq]
    · rw [gI_sI, if_neg (by omega)]; exact g8
    · rw [gI_sI, if_pos ⟨rfl, rfl⟩]; exact g5
    · rw [gI_sI, if_neg (by omega)]; exact g3
  · subst v0
    left
    rw [if_neg (show ¬ (0 : Int) = 1 by decide), if_pos rfl]
    refine okc_o (τ := sI ρ 40 4 (gI ρ 40 4)) ?_ ⟨sfq_t (sfq_i (by omega)) (sfq_n qρ), fun _ => ⟨?_, CSt_i sc Sρ, ?_, ?_⟩⟩
    · simp only [e267_84, Option.getD_some, Option.bind_some, Option.toList_some, Option.toList_none, List.cons_append, List.nil_append, and_self, and_true, true_and, false_and, and_false, ite_self, not_true_eq_false, not_false_eq_true, reduceIte, Nat.reduceEqDiff, ab_I, ab_L, ab_R, ao_I, ao_L, ao_R, gL_sL, gI_sI, gR_sR, gI_sL, gI_sR, gL_sI, gL_sR, gR_sI, gR_sL, Int.reduceEq]
    · rw [gI_sI, if_neg (by omega)]; exact g8
    · rw [gI_sI, if_pos ⟨rfl, rfl⟩]; exact g4
    · rw [gI_sI, if_neg (by omega)]; exact g3
  · subst vm
    rw [if_neg (show ¬ (-1 : Int) = 1 by decide), if_neg (show ¬ (-1 : Int) = 0 by decide)]
    -- the right side is the constant that is looked at
    obtain ⟨ρ1, s133, q1', u42, u43⟩ : ∃ ρ1, RR (lkB tb267) (B267_84, [some (mR (some 40)), some (mI c), some (mI (b2 (widJ w))), some (mI (b2 (isSgn c))), none, none], [mI (-1)], ρ) = RR (lkB tb267) (B267_133, [some (mR (some 40)), some (mI c), some (mI (b2 (widJ w))), some (mI (b2 (isSgn c))), some (mI (-1)), none], [], ρ1) ∧ nfq ρ1 σ ∧ rC ρ1 42 = vn (rgV S (dR w)) ∧ rC ρ1 43 = sdN S w := by
      have t43 := T243 Hρ
      by_cases r : rgt w
      · rw [b2_yes r] at t43
        refine ⟨ρ, ?_, qρ, p42, by rw [p43]; show _ = vn (sidJ S w); rw [sd_r r]⟩
        simp only [e267_84, e267_119, Option.getD_some, Option.bind_some, Option.toList_some, Option.toList_none, List.cons_append, List.nil_append, and_self, and_true, true_and, false_and, and_false, ite_self, not_true_eq_false, not_false_eq_true, reduceIte, Nat.reduceEqDiff, ab_I, ab_L, ab_R, ao_I, ao_L, ao_R, gL_sL, gI_sI, gR_sR, gI_sL, gI_sR, gL_sI, gL_sR, gR_sI, gR_sL, t43, oneI]
      · rw [b2_no r] at t43
        have t66 := T66 (σ := ρ) (k := 43) (j := 46) (kc_43 _) (kc_46 _) (by decide)
        rw [p46 r] at t66
        refine ⟨wC ρ 43 (sdN S w), ?_, nfq_t (nfq_w (by omega)) qρ, by rw [rC_wC, if_neg (by decide), p42], by rw [rC_wC, if_pos rfl]⟩
        simp only [e267_84, e267_119, Option.getD_some, Option.bind_some, Option.toList_some, Option.toList_none, List.cons_append, List.nil_append, and_self, and_true, true_and, false_and, and_false, ite_self, not_true_eq_false, not_false_eq_true, reduceIte, Nat.reduceEqDiff, ab_I, ab_L, ab_R, ao_I, ao_L, ao_R, gL_sL, gI_sI, gR_sR, gI_sL, gI_sR, gL_sI, gL_sR, gR_sI, gR_sL, t43, t66]
    rw [s133]
    have H1 := SC_n q1' H
    have t43 := T243 H1
    have s162 : RR (lkB tb267) (B267_133, [some (mR (some 40)), some (mI c), some (mI (b2 (widJ w))), some (mI (b2 (isSgn c))), some (mI (-1)), none], [], ρ1) = RR (lkB tb267) (B267_162, [some (mR (some 40)), some (mI c), some (mI (b2 (widJ w))), some (mI (b2 (isSgn c))), some (mI (-1)), none], [mI (b2 (rgt w ∧ fD w = fS w))], ρ1) := by
      by_cases r : rgt w
      · rw [b2_yes r] at t43
        by_cases e : fD w = fS w
        · rw [b2_yes (p := rgt w ∧ fD w = fS w) ⟨r, e⟩]
          simp only [e267_133, e267_137, e267_147, e267_154, Option.getD_some, Option.bind_some, Option.toList_some, Option.toList_none, List.cons_append, List.nil_append, and_self, and_true, true_and, false_and, and_false, ite_self, not_true_eq_false, not_false_eq_true, reduceIte, Nat.reduceEqDiff, ab_I, ab_L, ab_R, ao_I, ao_L, ao_R, gL_sL, gI_sI, gR_sR, gI_sL, gI_sR, gL_sI, gL_sR, gR_sI, gR_sL, t43, oneI, sc_w H1, T2, T1, e]
        · rw [b2_no (p := rgt w ∧ fD w = fS w) (fun z => e z.2)]
          have e' : ¬ fS w = fD w := fun z => e z.symm
          simp only [e267_133, e267_137, e267_147, e267_154, e267_161, Option.getD_some, Option.bind_some, Option.toList_some, Option.toList_none, List.cons_append, List.nil_append, and_self, and_true, true_and, false_and, and_false, ite_self, not_true_eq_false, not_false_eq_true, reduceIte, Nat.reduceEqDiff, ab_I, ab_L, ab_R, ao_I, ao_L, ao_R, gL_sL, gI_sI, gR_sR, gI_sL, gI_sR, gL_sI, gL_sR, gR_sI, gR_sL, t43, oneI, sc_w H1, T2, T1, e']
      · rw [b2_no r] at t43
        rw [b2_no (p := rgt w ∧ fD w = fS w) (fun z => r z.1)]
        simp only [e267_133, e267_137, e267_161, Option.getD_some, Option.bind_some, Option.toList_some, Option.toList_none, List.cons_append, List.nil_append, and_self, and_true, true_and, false_and, and_false, ite_self, not_true_eq_false, not_false_eq_true, reduceIte, Nat.reduceEqDiff, ab_I, ab_L, ab_R, ao_I, ao_L, ao_R, gL_sL, gI_sI, gR_sR, gI_sL, gI_sR, gL_sI, gL_sR, gR_sI, gR_sL, t43]
    rw [s162]
    have g42 : gL ρ1 42 3 = jB (vn (rgV S (dR w))) := by rw [← u42]; rfl
    have g43 : gL ρ1 43 3 = jB (sdN S w) := by rw [← u43]; rfl
    have hl1 : ak ρ1 2 (gR ρ1 k 6) := by
      rw [gR_r q1'.2.2]
      intro z
      have := hl z
      rwa [kd_r q1'.2.2]
    by_cases pt : ptC S w (vn (rgV S (dR w))) (sdN S w)
    · left
      have pt' : (rgt w ∧ fD w = fS w) ∨ ¬ (widJ w ∨ ¬ isSgn c ∧ ¬ cF < jB (vn (rgV S (dR w))) ∧ ¬ cF < jB (vn (sidJ S w))) := by
        rw [hcc]
        exact pt
      rw [if_pos pt']
      obtain ⟨τ, t63, p⟩ := T263 H1 (CSt_n sc q1' hS) P hl1
      have sp := spj_p (n := n) (g := g) H1 ((q1'.1 _ _).trans ht) ((q1'.1 _ _).trans h4) ((q1'.1 _ _).trans h5) p
      have sp' : spj σ τ k j (0, some (n, S), some (g, S), t) := ⟨sfq_t sp.1 (sfq_n q1'), fun z => by
        obtain ⟨y1, y2, y3, y4, y5⟩ := sp.2 z
        exact ⟨y1, y2, y3, y4.trans (q1'.1 _ _), y5.trans (gR_r q1'.2.2)⟩⟩
      refine okc_o (τ := τ) ?_ sp'
      have s207 : RR (lkB tb267) (B267_162, [some (mR (some 40)), some (mI c), some (mI (b2 (widJ w))), some (mI (b2 (isSgn c))), some (mI (-1)), none], [mI (b2 (rgt w ∧ fD w = fS w))], ρ1) = RR (lkB tb267) (B267_207, [some (mR (some 40)), some (mI c), some (mI (b2 (widJ w))), some (mI (b2 (isSgn c))), some (mI (-1)), some (mI (b2 (rgt w ∧ fD w = fS w)))], [], ρ1) := by
        by_cases sm : rgt w ∧ fD w = fS w
        · rw [b2_yes sm]
          simp only [e267_162, Option.getD_some, Option.bind_some, Option.toList_some, Option.toList_none, List.cons_append, List.nil_append, and_self, and_true, true_and, false_and, and_false, ite_self, not_true_eq_false, not_false_eq_true, reduceIte, Nat.reduceEqDiff, ab_I, ab_L, ab_R, ao_I, ao_L, ao_R, gL_sL, gI_sI, gR_sR, gI_sL, gI_sR, gL_sI, gL_sR, gR_sI, gR_sL, oneI]
        · have o := pt'.resolve_left sm
          have wd : ¬ widJ w := fun z => o (Or.inl z)
          rw [b2_no sm, b2_no wd]
          by_cases sg : isSgn c
          · rw [b2_yes sg]
            simp only [e267_162, Option.getD_some, Option.bind_some, Option.toList_some, Option.toList_none, List.cons_append, List.nil_append, and_self, and_true, true_and, false_and, and_false, ite_self, not_true_eq_false, not_false_eq_true, reduceIte, Nat.reduceEqDiff, ab_I, ab_L, ab_R, ao_I, ao_L, ao_R, gL_sL, gI_sI, gR_sR, gI_sL, gI_sR, gL_sI, gL_sR, gR_sI, gR_sL, oneI]
          · rw [b2_no sg]
            by_cases hi : cF < jB (vn (rgV S (dR w)))
            · simp only [e267_162, Option.getD_some, Option.bind_some, Option.toList_some, Option.toList_none, List.cons_append, List.nil_append, and_self, and_true, true_and, false_and, and_false, ite_self, not_true_eq_false, not_false_eq_true, reduceIte, Nat.reduceEqDiff, ab_I, ab_L, ab_R, ao_I, ao_L, ao_R, gL_sL, gI_sI, gR_sR, gI_sL, gI_sR, gL_sI, gL_sR, gR_sI, gR_sL, g42, cF_hi, eq_true hi]
            · have hi2 : cF < jB (sdN S w) := Classical.byContradiction fun z => o (Or.inr ⟨sg, hi, z⟩)
              simp only [e267_162, Option.getD_some, Option.bind_some, Option.toList_some, Option.toList_none, List.cons_append, List.nil_append, and_self, and_true, true_and, false_and, and_false, ite_self, not_true_eq_false, not_false_eq_true, reduceIte, Nat.reduceEqDiff, ab_I, ab_L, ab_R, ao_I, ao_L, ao_R, gL_sL, gI_sI, gR_sR, gI_sL, gI_sR, gL_sI, gL_sR, gR_sI, gR_sL, g42, g43, cF_hi, eq_false hi, eq_true hi2]
      rw [s207]
      simp only [e267_207, e267_211, Option.getD_some, Option.bind_some, Option.toList_some, Option.toList_none, List.cons_append, List.nil_append, and_self, and_true, true_and, false_and, and_false, ite_self, not_true_eq_false, not_false_eq_true, reduceIte, Nat.reduceEqDiff, ab_I, ab_L, ab_R, ao_I, ao_L, ao_R, gL_sL, gI_sI, gR_sR, gI_sL, gI_sR, gL_sI, gL_sR, gR_sI, gR_sL, t63]
    · right
      refine ⟨⟨rfl, pt⟩, ?_⟩
      refine okc_o (τ := ρ1) ?_ ⟨q1', u42, u43⟩
      have sm : ¬ (rgt w ∧ fD w = fS w) := fun z => pt (Or.inl z)
      have o : widJ w ∨ ¬ isSgn (fC w) ∧ ¬ cF < jB (vn (rgV S (dR w))) ∧ ¬ cF < jB (sdN S w) := Classical.byContradiction fun z => pt (Or.inr z)
      rw [b2_no sm]
      by_cases wd : widJ w
      · rw [b2_yes wd]
        simp only [e267_162, Option.getD_some, Option.bind_some, Option.toList_some, Option.toList_none, List.cons_append, List.nil_append, and_self, and_true, true_and, false_and, and_false, ite_self, not_true_eq_false, not_false_eq_true, reduceIte, Nat.reduceEqDiff, ab_I, ab_L, ab_R, ao_I, ao_L, ao_R, gL_sL, gI_sI, gR_sR, gI_sL, gI_sR, gL_sI, gL_sR, gR_sI, gR_sL, oneI]
      · obtain ⟨o1, o2, o3⟩ := o.resolve_left wd
        rw [← hcc] at o1
        rw [b2_no wd, b2_no o1]
        simp only [e267_162, Option.getD_some, Option.bind_some, Option.toList_some, Option.toList_none, List.cons_append, List.nil_append, and_self, and_true, true_and, false_and, and_false, ite_self, not_true_eq_false, not_false_eq_true, reduceIte, Nat.reduceEqDiff, ab_I, ab_L, ab_R, ao_I, ao_L, ao_R, gL_sL, gI_sI, gR_sR, gI_sL, gI_sR, gL_sI, gL_sR, gR_sI, gR_sL, g42, g43, cF_hi, eq_false o2, eq_false o3]
end CGJ
