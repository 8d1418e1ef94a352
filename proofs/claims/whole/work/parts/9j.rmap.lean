/-! ===== the reference's maps: places from s on of a cell, a key's entry, its cell ===== -/
/-- places from s on of a cell: those of a list -/
def wzS (σ : MS) (k : Nat) : Nat → List Int → MS
  | _, [] => σ
  | s, v :: t => wzS (sI σ k s v) k (s + 1) t
section RMAP
variable {σ τ ρ : MS} {c c' : TC WR} {W V : WR} {w x A a : B64} {r f b k n o s m e : Nat} {l key val : List Int} {y : Int}
theorem wzS_g : ∀ (l : List Int) (s : Nat) (σ : MS) (k' s' : Nat), gI (wzS σ k s l) k' s' = if k' = k ∧ s ≤ s' ∧ s' < s + l.length then l.getD (s' - s) 0 else gI σ k' s' := by
  intro l
  induction l with
  | nil =>
    intro s σ k' s'
    rw [if_neg (fun z => by have : s' < s + 0 := z.2.2; omega)]
    rfl
  | cons v l ih =>
    intro s σ k' s'
    show gI (wzS (sI σ k s v) k (s + 1) l) k' s' = _
    rw [ih, gI_sI, List.length_cons]
    by_cases z : k' = k ∧ s ≤ s' ∧ s' < s + (l.length + 1)
    · rw [if_pos z]
      by_cases q : s' = s
      · rw [if_neg (by omega), if_pos ⟨z.1, q⟩, q, Nat.sub_self]
        rfl
      · rw [if_pos (by omega), show s' - s = (s' - (s + 1)) + 1 by omega]
        rfl
    · rw [if_neg z, if_neg (by omega), if_neg (by omega)]
theorem wzS_2 : ∀ (l : List Int) (s : Nat) (σ : MS), (wzS σ k s l).2 = σ.2 := by
  intro l
  induction l with
  | nil => intro s σ; rfl
  | cons v l ih => intro s σ; exact ih _ _
theorem wzS_a : ∀ (l l' : List Int) (s : Nat) (σ : MS), wzS σ k s (l ++ l') = wzS (wzS σ k s l) k (s + l.length) l' := by
  intro l
  induction l with
  | nil => intro l' s σ; rfl
  | cons v l ih =>
    intro l' s σ
    show wzS (sI σ k s v) k (s + 1) (l ++ l') = wzS (wzS (sI σ k s v) k (s + 1) l) k (s + (l.length + 1)) l'
    rw [ih, show s + 1 + l.length = s + (l.length + 1) by omega]
theorem wzS_s {v : Int} : wzS σ k s (l ++ [v]) = sI (wzS σ k s l) k (s + l.length) v := by
  rw [wzS_a]
  rfl
theorem cellR_v (o : Nat) : cellR o = 147 ∨ cellR o = 100 ∨ cellR o = 144 ∨ cellR o = 149 := by
  unfold cellR
  repeat' split
  all_goals omega
theorem lsR_e (h : ∀ s, gI τ (cellR o) s = gI σ (cellR o) s) : lsR τ o b n = lsR σ o b n := by
  unfold lsR
  refine List.map_congr_left fun i _ => ?_
  exact congrArg byW (h _)
theorem kp_by (z : Int) : w8 (w8 (z % 256)) = kpW (byW z) := by
  rw [w8w8]
  unfold kpW byW
  rw [BitVec.toInt_ofInt, Int.bmod_eq_of_le (by omega) (by omega)]
theorem lsR_1 : lsR σ o b (n + 1) = lsR σ o b n ++ [byW (byR σ o (b + n))] := by
  unfold lsR
  rw [List.range'_concat, List.map_append]
  simp
/-- bytes are taken to the key or the value -/
theorem T562 {K : Nat} (hK : K = 110 ∧ n ≤ 16 ∨ K = 111 ∧ n ≤ 64) (h : ∀ i, i < n → obR o (b + i)) : MM 562 [mR (some 80), mL (adR o + BitVec.ofNat 64 b), mI (n : Int), mR (some K)] σ = some (none, wzS σ K 0 ((lsR σ o b n).map kpW)) := by
  have key : ∀ (f j : Nat), j + f = n → RR (lkB tb562) (B562_3, [some (mR (some 80)), some (mL (adR o + BitVec.ofNat 64 b)), none, some (mI (n : Int)), some (mR (some K)), some (mI (j : Int))], [], wzS σ K 0 ((lsR σ o b j).map kpW)) = some (none, wzS σ K 0 ((lsR σ o b n).map kpW)) := by
    intro f
    induction f with
    | zero =>
      intro j e
      have e : j = n := by omega
      subst e
      rw [e562_3, if_pos (Int.le_refl _)]
    | succ f ih =>
      intro j e
      have ln : ((lsR σ o b j).map kpW).length = j := by rw [List.length_map, lsR_n]
      have t := T553 (σ := wzS σ K 0 ((lsR σ o b j).map kpW)) (h j (by omega))
      have e1 : byR (wzS σ K 0 ((lsR σ o b j).map kpW)) o (b + j) = byR σ o (b + j) := by
        show gI _ _ _ = _
        rw [wzS_g, if_neg (fun z => by have := cellR_v o; omega)]
      rw [e1] at t
      have ww : w32 ((j : Int) + 1) = ((j + 1 : Nat) : Int) := w32_s (by omega)
      have z := ih (j + 1) (by omega)
      rw [lsR_1, List.map_append, List.map_singleton, wzS_s, ln, Nat.zero_add, ← kp_by] at z
      have ba : adR o + BitVec.ofNat 64 b + iL (j : Int) = adR o + BitVec.ofNat 64 (b + j) := by rw [ad_s, nat_s]
      rcases hK with ⟨rfl, hn⟩ | ⟨rfl, hn⟩
      · have bj : 0 ≤ (j : Int) ∧ (j : Int) < 16 := by omega
        rw [e562_3, if_neg (by omega), ba, t]
        simp only [Option.getD_some, Option.bind_some, Option.toList_some, Option.toList_none, List.cons_append, List.nil_append, and_self, and_true, true_and, false_and, and_false, ite_self, not_true_eq_false, not_false_eq_true, reduceIte, Nat.reduceEqDiff, ab_I, ab_L, ab_R, ao_I, ao_L, ao_R, gL_sL, gI_sI, gR_sR, gI_sL, gI_sR, gL_sI, gL_sR, gR_sI, gR_sL, e562_22, g_110, bj.1, bj.2, Int.toNat_natCast, ww]
        exact z
      · have bj : 0 ≤ (j : Int) ∧ (j : Int) < 64 := by omega
        rw [e562_3, if_neg (by omega), ba, t]
        simp only [Option.getD_some, Option.bind_some, Option.toList_some, Option.toList_none, List.cons_append, List.nil_append, and_self, and_true, true_and, false_and, and_false, ite_self, not_true_eq_false, not_false_eq_true, reduceIte, Nat.reduceEqDiff, ab_I, ab_L, ab_R, ao_I, ao_L, ao_R, gL_sL, gI_sI, gR_sR, gI_sL, gI_sR, gL_sI, gL_sR, gR_sI, gR_sL, e562_22, g_111, bj.1, bj.2, Int.toNat_natCast, ww]
        exact z
  rw [M562, e562_0]
  exact key n 0 (by omega)
/-! the entry of a key -/
def bI (q : Bool) : Int := if q = true then 1 else 0
def enS (σ : MS) (m e n : Nat) : Bool := (List.range n).all fun k => decide (gI σ 102 (256 * m + 16 * e + k) = gI σ 110 k)
def etS (σ : MS) (m : Nat) : Option Nat := (List.range (gI σ 101 m).toNat).find? fun e => enS σ m e (gI σ 97 m).toNat
def ioN (v : Option Nat) : Int := match v with
  | none => -1
  | some e => (e : Int)
theorem L408a {N : Nat} (hm : m < 8) (he : e < 16) (hN : gI σ 97 m = (N : Int)) (hl : N ≤ 16) : ∀ (f k : Nat) (q : Bool), k + f = N → RR (lkB tb408) (B408_17, [some (mR (some 80)), some (mI (m : Int)), some (mI (e : Int)), some (mI (bI q)), some (mI (k : Int))], [], σ) = RR (lkB tb408) (B408_17, [some (mR (some 80)), some (mI (m : Int)), some (mI (e : Int)), some (mI (bI (q && (List.range' k f).all fun k => decide (gI σ 102 (256 * m + 16 * e + k) = gI σ 110 k)))), some (mI (N : Int))], [], σ) := by
  intro f
  induction f with
  | zero =>
    intro k q z
    have z : k = N := by omega
    subst z
    simp only [List.range'_zero, List.all_nil, Bool.and_true]
  | succ f ih =>
    intro k q z
    have b0 : 0 ≤ (m : Int) ∧ (m : Int) < 8 := by omega
    have b1 : 0 ≤ (k : Int) ∧ (k : Int) < 16 := by omega
    have nl : ¬ (N : Int) ≤ (k : Int) := by omega
    have ww : w32 ((k : Int) + 1) = ((k + 1 : Nat) : Int) := w32_s (by omega)
    have wp : w32 (w32 (w32 (256 * (m : Int)) + w32 (16 * (e : Int))) + (k : Int)) = ((256 * m + 16 * e + k : Nat) : Int) := by
      rw [w32_i (x := 256 * (m : Int)) (by omega) (by omega), w32_i (x := 16 * (e : Int)) (by omega) (by omega), w32_i (x := 256 * (m : Int) + 16 * (e : Int)) (by omega) (by omega), w32_i (by omega) (by omega)]
      omega
    have b2 : 0 ≤ ((256 * m + 16 * e + k : Nat) : Int) ∧ ((256 * m + 16 * e + k : Nat) : Int) < 2048 := by omega
    rw [List.range'_succ, List.all_cons, ← Bool.and_assoc]
    cases q with
    | false =>
      have z2 := ih (k + 1) false (by omega)
      rw [Bool.false_and] at z2 ⊢
      have s : RR (lkB tb408) (B408_17, [some (mR (some 80)), some (mI (m : Int)), some (mI (e : Int)), some (mI (bI false)), some (mI (k : Int))], [], σ) = RR (lkB tb408) (B408_17, [some (mR (some 80)), some (mI (m : Int)), some (mI (e : Int)), some (mI (bI false)), some (mI ((k + 1 : Nat) : Int))], [], σ) := by
        rw [show bI false = 0 from rfl, e408_17]
        simp only [Option.getD_some, Option.bind_some, Option.toList_some, Option.toList_none, List.cons_append, List.nil_append, and_self, and_true, true_and, false_and, and_false, ite_self, not_true_eq_false, not_false_eq_true, reduceIte, Nat.reduceEqDiff, ab_I, ab_L, ab_R, ao_I, ao_L, ao_R, gL_sL, gI_sI, gR_sR, gI_sL, gI_sR, gL_sI, gL_sR, gR_sI, gR_sL, g_97, b0.1, b0.2, Int.toNat_natCast, hN, nl, if_false, if_true, e408_64, e408_65, ww]
      rw [s, z2, Bool.false_and]
    | true =>
      rw [Bool.true_and]
      by_cases q : gI σ 102 (256 * m + 16 * e + k) = gI σ 110 k
      · have z2 := ih (k + 1) true (by omega)
        rw [decide_eq_true q]
        rw [← z2, show bI true = 1 from rfl, e408_17]
        simp only [Option.getD_some, Option.bind_some, Option.toList_some, Option.toList_none, List.cons_append, List.nil_append, and_self, and_true, true_and, false_and, and_false, ite_self, not_true_eq_false, not_false_eq_true, reduceIte, Nat.reduceEqDiff, ab_I, ab_L, ab_R, ao_I, ao_L, ao_R, gL_sL, gI_sI, gR_sR, gI_sL, gI_sR, gL_sI, gL_sR, gR_sI, gR_sL, g_97, g_102, g_110, b0.1, b0.2, b1.1, b1.2, b2.1, b2.2, wp, Int.toNat_natCast, hN, nl, if_false, if_true, e408_65, ww, q, show ¬ (1 : Int) = 0 by decide]
      · have z2 := ih (k + 1) false (by omega)
        rw [decide_eq_false q]
        rw [← z2, show bI true = 1 from rfl, show bI false = 0 from rfl, e408_17]
        simp only [Option.getD_some, Option.bind_some, Option.toList_some, Option.toList_none, List.cons_append, List.nil_append, and_self, and_true, true_and, false_and, and_false, ite_self, not_true_eq_false, not_false_eq_true, reduceIte, Nat.reduceEqDiff, ab_I, ab_L, ab_R, ao_I, ao_L, ao_R, gL_sL, gI_sI, gR_sR, gI_sL, gI_sR, gL_sI, gL_sR, gR_sI, gR_sL, g_97, g_102, g_110, b0.1, b0.2, b1.1, b1.2, b2.1, b2.2, wp, Int.toNat_natCast, hN, nl, if_false, if_true, e408_64, e408_65, ww, q, show ¬ (1 : Int) = 0 by decide, not_false_eq_true]
theorem T408 (hm : m < 8) (hn : 0 ≤ gI σ 97 m ∧ gI σ 97 m ≤ 16) (h1 : 0 ≤ gI σ 101 m ∧ gI σ 101 m ≤ 16) : MM 408 [mR (some 80), mI (m : Int)] σ = some (some (mI (ioN (etS σ m))), σ) := by
  obtain ⟨N, hN⟩ : ∃ N : Nat, N = (gI σ 97 m).toNat := ⟨_, rfl⟩
  obtain ⟨C, hC⟩ : ∃ C : Nat, C = (gI σ 101 m).toNat := ⟨_, rfl⟩
  have eN : gI σ 97 m = (N : Int) := by omega
  have eC : gI σ 101 m = (C : Int) := by omega
  have b0 : 0 ≤ (m : Int) ∧ (m : Int) < 8 := by omega
  have key : ∀ (f e : Nat), e + f = C → RR (lkB tb408) (B408_2, [some (mR (some 80)), some (mI (m : Int)), some (mI (e : Int)), none, none], [], σ) = some (some (mI (ioN ((List.range' e f).find? fun e => enS σ m e N))), σ) := by
    intro f
    induction f with
    | zero =>
      intro e z
      have le : (C : Int) ≤ (e : Int) := by omega
      rw [e408_2]
      simp only [Option.getD_some, Option.bind_some, Option.toList_some, Option.toList_none, List.cons_append, List.nil_append, and_self, and_true, true_and, false_and, and_false, ite_self, not_true_eq_false, not_false_eq_true, reduceIte, Nat.reduceEqDiff, ab_I, ab_L, ab_R, ao_I, ao_L, ao_R, gL_sL, gI_sI, gR_sR, gI_sL, gI_sR, gL_sI, gL_sR, gR_sI, gR_sL, g_101, b0.1, b0.2, Int.toNat_natCast, eC, le, if_true]
      rfl
    | succ f ih =>
      intro e z
      have nl : ¬ (C : Int) ≤ (e : Int) := by omega
      have ww : w32 ((e : Int) + 1) = ((e + 1 : Nat) : Int) := w32_s (by omega)
      have z1 := L408a (e := e) hm (by omega) eN (by omega) N 0 true (by omega)
      rw [Bool.true_and, ← List.range_eq_range', show bI true = 1 from rfl] at z1
      have en : ((List.range N).all fun k => decide (gI σ 102 (256 * m + 16 * e + k) = gI σ 110 k)) = enS σ m e N := rfl
      rw [en] at z1
      rw [e408_2]
      simp only [Option.getD_some, Option.bind_some, Option.toList_some, Option.toList_none, List.cons_append, List.nil_append, and_self, and_true, true_and, false_and, and_false, ite_self, not_true_eq_false, not_false_eq_true, reduceIte, Nat.reduceEqDiff, ab_I, ab_L, ab_R, ao_I, ao_L, ao_R, gL_sL, gI_sI, gR_sR, gI_sL, gI_sR, gL_sI, gL_sR, gR_sI, gR_sL, g_101, b0.1, b0.2, Int.toNat_natCast, eC, nl, if_false]
      have z1 : RR (lkB tb408) (B408_17, [some (mR (some 80)), some (mI (m : Int)), some (mI (e : Int)), some (mI 1), some (mI 0)], [], σ) = _ := z1
      rw [z1, e408_17]
      simp only [Option.getD_some, Option.bind_some, Option.toList_some, Option.toList_none, List.cons_append, List.nil_append, and_self, and_true, true_and, false_and, and_false, ite_self, not_true_eq_false, not_false_eq_true, reduceIte, Nat.reduceEqDiff, ab_I, ab_L, ab_R, ao_I, ao_L, ao_R, gL_sL, gI_sI, gR_sR, gI_sL, gI_sR, gL_sI, gL_sR, gR_sI, gR_sL, g_97, b0.1, b0.2, Int.toNat_natCast, eN, if_true, Int.le_refl]
      rw [List.range'_succ, List.find?_cons]
      cases q : enS σ m e N with
      | true =>
        rw [if_neg (show ¬ bI true = 0 by decide)]
        rfl
      | false =>
        rw [if_pos (show bI false = 0 by decide), ww]
        exact RR_q (ih (e + 1) (by omega)) (by repeat (first | exact lq_nil | refine lq_cons (Or.inr rfl) ?_ | refine lq_cons (Or.inl rfl) ?_))
  rw [M408, e408_0]
  have z := key C 0 (by omega)
  rw [← List.range_eq_range'] at z
  unfold etS
  rw [← hN, ← hC]
  exact z
theorem etS_l (h : etS σ m = some e) : e < (gI σ 101 m).toNat := List.mem_range.mp (List.mem_of_find?_eq_some h)
theorem iAn255 (x : Int) : iL x &&& iL 255 = BitVec.ofNat 64 (x % 256).toNat := by
  apply BitVec.eq_of_toNat_eq
  rw [BitVec.toNat_and]
  have e : (iL x).toNat = (x % 18446744073709551616).toNat := by
    show (BitVec.ofInt 64 x).toNat = _
    rw [BitVec.toNat_ofInt]
    rfl
  rw [e, show (iL 255).toNat = 2 ^ 8 - 1 from rfl, Nat.and_two_pow_sub_one_eq_mod, BitVec.toNat_ofNat]
  omega
def idS (σ : MS) : Nat := (gI σ 110 0 % 256 + gI σ 110 1 % 256 * 256 + gI σ 110 2 % 256 * 65536 + gI σ 110 3 % 256 * 16777216).toNat
theorem T409 : MM 409 [mR (some 80)] σ = some (some (mL (BitVec.ofNat 64 (idS σ))), σ) := by
  simp only [M409, e409_0, Option.getD_some, Option.bind_some, Option.toList_some, Option.toList_none, List.cons_append, List.nil_append, and_self, and_true, true_and, false_and, and_false, ite_self, not_true_eq_false, not_false_eq_true, reduceIte, Nat.reduceEqDiff, ab_I, ab_L, ab_R, ao_I, ao_L, ao_R, gL_sL, gI_sI, gR_sR, gI_sL, gI_sR, gL_sI, gL_sR, gR_sI, gR_sL, g_110, Int.reduceLE, Int.reduceLT]
  refine congrArg (fun z => some (some (mL z), σ)) ?_
  simp only [iAn255, show (0 : Int).toNat = 0 from rfl, show (1 : Int).toNat = 1 from rfl, show (2 : Int).toNat = 2 from rfl, show (3 : Int).toNat = 3 from rfl]
  unfold idS
  obtain ⟨p, hp⟩ : ∃ p, p = (gI σ 110 0 % 256).toNat := ⟨_, rfl⟩
  obtain ⟨q, hq⟩ : ∃ p, p = (gI σ 110 1 % 256).toNat := ⟨_, rfl⟩
  obtain ⟨r, hr⟩ : ∃ p, p = (gI σ 110 2 % 256).toNat := ⟨_, rfl⟩
  obtain ⟨s, hs⟩ : ∃ p, p = (gI σ 110 3 % 256).toNat := ⟨_, rfl⟩
  rw [← hp, ← hq, ← hr, ← hs, show (gI σ 110 0 % 256 + gI σ 110 1 % 256 * 256 + gI σ 110 2 % 256 * 65536 + gI σ 110 3 % 256 * 16777216).toNat = p + q * 256 + r * 65536 + s * 16777216 by omega]
  have lp : p < 256 := by omega
  have lq : q < 256 := by omega
  have lr : r < 256 := by omega
  have ls : s < 256 := by omega
  clear hp hq hr hs
  have sh : ∀ (a i : Nat), a < 256 → i ≤ 24 → (lShl (BitVec.ofNat 64 a) (i : Int)).toNat = a <<< i := fun a i ha hi => by
    unfold lShl
    rw [show (((i : Nat) : Int) % 64).toNat = i by omega, BitVec.toNat_shiftLeft, BitVec.toNat_ofNat, Nat.mod_eq_of_lt (by omega : a < 2 ^ 64), Nat.mod_eq_of_lt]
    rw [Nat.shiftLeft_eq]
    have : (2 : Nat) ^ i ≤ 2 ^ 24 := Nat.pow_le_pow_right (by decide) hi
    calc a * 2 ^ i ≤ 255 * 2 ^ 24 := Nat.mul_le_mul (by omega) this
      _ < 2 ^ 64 := by decide
  apply BitVec.eq_of_toNat_eq
  rw [BitVec.toNat_or, BitVec.toNat_or, BitVec.toNat_or]
  have h1 := sh q 8 lq (by decide)
  have h2 := sh r 16 lr (by decide)
  have h3 := sh s 24 ls (by decide)
  have h1 : (lShl (BitVec.ofNat 64 q) 8).toNat = q <<< 8 := h1
  have h2 : (lShl (BitVec.ofNat 64 r) 16).toNat = r <<< 16 := h2
  have h3 : (lShl (BitVec.ofNat 64 s) 24).toNat = s <<< 24 := h3
  rw [h1, h2, h3, BitVec.toNat_ofNat, BitVec.toNat_ofNat, Nat.mod_eq_of_lt (by omega : p < 2 ^ 64), Nat.or_comm p, ← Nat.shiftLeft_add_eq_or_of_lt (by omega : p < 2 ^ 8), Nat.or_comm _ (r <<< 16), ← Nat.shiftLeft_add_eq_or_of_lt (by rw [Nat.shiftLeft_eq]; omega : q <<< 8 + p < 2 ^ 16), Nat.or_comm _ (s <<< 24), ← Nat.shiftLeft_add_eq_or_of_lt (by rw [Nat.shiftLeft_eq, Nat.shiftLeft_eq]; omega : r <<< 16 + (q <<< 8 + p) < 2 ^ 24), Nat.shiftLeft_eq, Nat.shiftLeft_eq, Nat.shiftLeft_eq]
  omega
/-- the cell of a key -/
def fnS (σ : MS) (m : Nat) : Int := if gI σ 96 m = 0 then (if (idS σ : Int) < gI σ 99 m then (idS σ : Int) else -1) else (match etS σ m with
  | none => -1
  | some e => gI σ 103 (16 * m + e))
theorem T410 (hm : m < 8) (hn : 0 ≤ gI σ 97 m ∧ gI σ 97 m ≤ 16) (h1 : 0 ≤ gI σ 101 m ∧ gI σ 101 m ≤ 16) (h9 : 0 ≤ gI σ 99 m ∧ gI σ 99 m ≤ 16) : MM 410 [mR (some 80), mI (m : Int)] σ = some (some (mI (fnS σ m)), σ) := by
  have b0 : 0 ≤ (m : Int) ∧ (m : Int) < 8 := by omega
  unfold fnS
  by_cases k0 : gI σ 96 m = 0
  · rw [if_pos k0]
    have lt : idS σ < 4294967296 := by unfold idS; omega
    have ti : (BitVec.ofNat 64 (idS σ)).toInt = (idS σ : Int) := by
      rw [toInt_c, BitVec.toNat_ofNat, Nat.mod_eq_of_lt (by omega), if_pos (by omega)]
    have t9 : (iL (gI σ 99 m)).toInt = gI σ 99 m := by
      show (BitVec.ofInt 64 (gI σ 99 m)).toInt = _
      rw [BitVec.toInt_ofInt, Int.bmod_eq_of_le (by omega) (by omega)]
    by_cases q : (idS σ : Int) < gI σ 99 m
    · rw [if_pos q]
      have nl : ¬ gI σ 99 m ≤ (idS σ : Int) := by omega
      have e2 : lI (BitVec.ofNat 64 (idS σ)) = (idS σ : Int) := by
        rw [iLnat, lI_s (by omega)]
      simp only [M410, e410_0, e410_13, e410_28, Option.getD_some, Option.bind_some, Option.toList_some, Option.toList_none, List.cons_append, List.nil_append, and_self, and_true, true_and, false_and, and_false, ite_self, not_true_eq_false, not_false_eq_true, reduceIte, Nat.reduceEqDiff, ab_I, ab_L, ab_R, ao_I, ao_L, ao_R, gL_sL, gI_sI, gR_sR, gI_sL, gI_sR, gL_sI, gL_sR, gR_sI, gR_sL, g_96, g_99, b0.1, b0.2, Int.toNat_natCast, k0, not_true_eq_false, if_false, T409, ti, t9, nl, e2]
    · rw [if_neg q]
      have nl : gI σ 99 m ≤ (idS σ : Int) := by omega
      simp only [M410, e410_0, e410_13, Option.getD_some, Option.bind_some, Option.toList_some, Option.toList_none, List.cons_append, List.nil_append, and_self, and_true, true_and, false_and, and_false, ite_self, not_true_eq_false, not_false_eq_true, reduceIte, Nat.reduceEqDiff, ab_I, ab_L, ab_R, ao_I, ao_L, ao_R, gL_sL, gI_sI, gR_sR, gI_sL, gI_sR, gL_sI, gL_sR, gR_sI, gR_sL, g_96, g_99, b0.1, b0.2, Int.toNat_natCast, k0, not_true_eq_false, if_false, if_true, T409, ti, t9, nl]
  · rw [if_neg k0]
    have t := T408 hm hn h1
    cases q : etS σ m with
    | none =>
      rw [q] at t
      have t : MM 408 [mR (some 80), mI (m : Int)] σ = some (some (mI (-1)), σ) := t
      simp only [M410, e410_0, e410_39, Option.getD_some, Option.bind_some, Option.toList_some, Option.toList_none, List.cons_append, List.nil_append, and_self, and_true, true_and, false_and, and_false, ite_self, not_true_eq_false, not_false_eq_true, reduceIte, Nat.reduceEqDiff, ab_I, ab_L, ab_R, ao_I, ao_L, ao_R, gL_sL, gI_sI, gR_sR, gI_sL, gI_sR, gL_sI, gL_sR, gR_sI, gR_sL, g_96, b0.1, b0.2, Int.toNat_natCast, k0, not_false_eq_true, if_true, t, show ¬ (0 : Int) ≤ -1 by decide, if_false]
    | some e =>
      rw [q] at t
      have le := etS_l q
      have t : MM 408 [mR (some 80), mI (m : Int)] σ = some (some (mI (e : Int)), σ) := t
      have wp : w32 (w32 (16 * (m : Int)) + (e : Int)) = ((16 * m + e : Nat) : Int) := by
        rw [w32_i (x := 16 * (m : Int)) (by omega) (by omega), w32_i (by omega) (by omega)]
        omega
      have b2 : 0 ≤ ((16 * m + e : Nat) : Int) ∧ ((16 * m + e : Nat) : Int) < 128 := by omega
      have b3 : 0 ≤ (e : Int) := by omega
      simp only [M410, e410_0, e410_39, Option.getD_some, Option.bind_some, Option.toList_some, Option.toList_none, List.cons_append, List.nil_append, and_self, and_true, true_and, false_and, and_false, ite_self, not_true_eq_false, not_false_eq_true, reduceIte, Nat.reduceEqDiff, ab_I, ab_L, ab_R, ao_I, ao_L, ao_R, gL_sL, gI_sI, gR_sR, gI_sL, gI_sR, gL_sI, gL_sR, gR_sI, gR_sL, g_96, g_103, b0.1, b0.2, b2.1, b2.2, b3, wp, Int.toNat_natCast, k0, not_false_eq_true, if_true, t]
end RMAP
