/-! ===== the reference's judge: PLACE ===== -/
/-- PLACE touches its marks, and tells a fault -/
def pq (τ σ : MS) : Prop := (∀ k s, ¬ (k = 136 ∨ k = 137) → ¬ (k = 80 ∧ (s = 87 ∨ s = 90)) → gI τ k s = gI σ k s) ∧ (∀ k s, gL τ k s = gL σ k s) ∧ τ.2.2 = σ.2.2
/-- the first instruction that is out of place -/
noncomputable def plcP (p : Nat → B64) (n : Nat) (S : Nat → Bool) : Nat → Nat → Option Nat
  | 0, _ => none
  | f + 1, i => if n ≤ i then none else @ite _ (S i = true ∧ ¬ godP p n S i) (Classical.propDecidable _) (some i) (plcP p n S f (i + 1))
/-- beginnings of functions that are known from the first m words -/
def bgM (p : Nat → B64) (n : Nat) (S : Nat → Bool) (m j : Nat) : Bool := decide (j = 0) || (decide (j < n) && S j && (List.range m).any fun i => S i && decide (isCal (p i) ∧ goal i (p i) = j))
/-- where ways meet, from the first m words -/
def joM (p : Nat → B64) (S : Nat → Bool) (m j : Nat) : Bool := (List.range m).any fun i => S i && decide (ledO (p i) ∧ goal i (p i) = (j : Int))
def plE (σ τ : MS) (p : Nat → B64) (n : Nat) (S : Nat → Bool) (r : Option Nat) : Prop := pq τ σ ∧ (r = none → gI τ 80 90 = 0 ∧ gI τ 80 87 = gI σ 80 87 ∧ mkS τ 136 (joM p S n)) ∧ ∀ i, r = some i → gI τ 80 90 = 2 ∧ gI τ 80 87 = (i : Int)
section PLC
variable {σ τ ρ : MS} {i n k s m : Nat} {S B : Nat → Bool} {p : Nat → B64}
theorem pq_sl (q : pq τ σ) (h : okSl σ) : okSl τ ∧ (∀ j, wdA τ j = wdA σ j) ∧ szA τ = szA σ ∧ jsA τ = jsA σ := by
  have e : jsA τ = jsA σ := q.1 _ _ (by omega) (by omega)
  refine ⟨?_, fun j => ?_, ?_, e⟩
  · unfold okSl at *
    rw [e, q.1 84 _ (by omega) (by omega)]
    exact h
  · unfold wdA
    rw [e, q.2.1]
  · unfold szA
    rw [e, q.1 84 _ (by omega) (by omega)]
theorem pq_sI {v : Int} (h : k = 136 ∨ k = 137 ∨ (k = 80 ∧ (s = 87 ∨ s = 90))) : pq (sI σ k s v) σ := ⟨fun k' s' q1 q2 => by rw [gI_sI, if_neg (by omega)], fun _ _ => rfl, rfl⟩
theorem pq_t {a b c : MS} (h1 : pq a b) (h2 : pq b c) : pq a c := ⟨fun k s p q => (h1.1 k s p q).trans (h2.1 k s p q), fun k s => (h1.2.1 k s).trans (h2.2.1 k s), h1.2.2.trans h2.2.2⟩
theorem pq_r (σ : MS) : pq σ σ := ⟨fun _ _ _ _ => rfl, fun _ _ => rfl, rfl⟩
/-- a number of 32 bits that is no word's stays none -/
theorem th_w {g : Int} {P : Nat → Prop} (h : -2147483648 ≤ g ∧ g ≤ 2147483900) (hn : n ≤ 200) : ((0 ≤ w32 g ∧ (w32 g).toNat < n) ∧ P (w32 g).toNat) ↔ ((0 ≤ g ∧ g.toNat < n) ∧ P g.toNat) := by
  by_cases c : g ≤ 2147483647
  · rw [w32_i h.1 (by omega)]
  · have e : w32 g = g - 4294967296 := by
      unfold w32
      rw [Int.bmod_def]
      split <;> omega
    rw [e]
    constructor
    · intro z
      exfalso
      omega
    · intro z
      exfalso
      omega
theorem go_b (hi : i < 200) (w : B64) : -2147483648 ≤ goal i w ∧ goal i w ≤ 2147483900 := by
  have f := fld_rng w
  unfold goal
  split <;> omega
theorem any_s {f : Nat → Bool} : ((List.range (m + 1)).any f) = ((List.range m).any f || f m) := by
  rw [List.range_succ, List.any_append]
  simp
theorem bg_s (j : Nat) : bgM p n S (m + 1) j = (bgM p n S m j || (decide (j < n) && S j && (S m && decide (isCal (p m) ∧ goal m (p m) = j)))) := by
  unfold bgM
  rw [any_s]
  cases decide (j = 0) <;> cases decide (j < n) <;> cases S j <;> simp
theorem jo_s (j : Nat) : joM p S (m + 1) j = (joM p S m j || (S m && decide (ledO (p m) ∧ goal m (p m) = (j : Int)))) := by
  unfold joM
  rw [any_s]
/-- the function of a word -/
theorem T481 (hm : mkS σ 137 B) (h0 : B 0 = true) : ∀ (i : Nat) (x1 : Int), i < 201 → RR (lkB tb481) (B481_2, [some (mR (some 80)), some (mI x1), some (mI (i : Int))], [], σ) = some (some (mI ((fnoP B i : Nat) : Int)), σ) := by
  intro i
  induction i with
  | zero =>
    intro x1 _
    have g := hm 0 (by decide)
    rw [if_pos h0] at g
    rw [e481_2]
    show (if Option.isSome (some 137) = true ∧ ab σ 2 137 0 then (if ¬ (gI σ 137 (Int.toNat 0)) = 0 then some (some (mI 0), σ) else _) else none) = _
    simp only [g_137, Int.reduceLE, Int.reduceLT, and_self, if_true, show (0 : Int).toNat = 0 from rfl, g, oneI, not_false_eq_true]
    rfl
  | succ i ih =>
    intro x1 hi
    have b0 : 0 ≤ ((i + 1 : Nat) : Int) ∧ ((i + 1 : Nat) : Int) < 201 := by omega
    have g := hm (i + 1) hi
    have ih := ih x1 (by omega)
    have wn : w32 (((i + 1 : Nat) : Int) + (-1)) = (i : Int) := by
      rw [w32_i (by omega) (by omega)]
      omega
    rw [e481_2]
    by_cases b : B (i + 1) = true
    · rw [if_pos b] at g
      have e : fnoP B (i + 1) = i + 1 := if_pos b
      rw [e]
      simp only [Option.getD_some, Option.bind_some, Option.toList_some, Option.toList_none, List.cons_append, List.nil_append, and_self, and_true, true_and, false_and, and_false, ite_self, not_true_eq_false, not_false_eq_true, reduceIte, Nat.reduceEqDiff, ab_I, ab_L, ab_R, ao_I, ao_L, ao_R, gL_sL, gI_sI, gR_sR, gI_sL, gI_sR, gL_sI, gL_sR, gR_sI, gR_sL, g_137, b0.1, b0.2, Int.toNat_natCast, g, oneI]
    · rw [if_neg b] at g
      have e : fnoP B (i + 1) = fnoP B i := if_neg b
      rw [e]
      simp only [Option.getD_some, Option.bind_some, Option.toList_some, Option.toList_none, List.cons_append, List.nil_append, and_self, and_true, true_and, false_and, and_false, ite_self, not_true_eq_false, not_false_eq_true, reduceIte, Nat.reduceEqDiff, ab_I, ab_L, ab_R, ao_I, ao_L, ao_R, gL_sL, gI_sI, gR_sR, gI_sL, gI_sR, gL_sI, gL_sR, gR_sI, gR_sL, g_137, b0.1, b0.2, Int.toNat_natCast, g, wn]
      exact ih
/-- the marks are cleared -/
def c2I (σ : MS) : Nat → MS
  | 0 => σ
  | n + 1 => sI (sI (c2I σ n) 137 n (if n = 0 then 1 else 0)) 136 n 0
theorem c2_q : ∀ n : Nat, pq (c2I σ n) σ
  | 0 => pq_r σ
  | n + 1 => pq_t (pq_sI (Or.inl rfl)) (pq_t (pq_sI (Or.inr (Or.inl rfl))) (c2_q n))
theorem c2_80 : ∀ n : Nat, gI (c2I σ n) 80 s = gI σ 80 s := by
  intro n
  induction n with
  | zero => rfl
  | succ n ih =>
    show gI (sI (sI (c2I σ n) 137 n (if n = 0 then 1 else 0)) 136 n 0) 80 s = _
    rw [gI_sI, if_neg (by omega), gI_sI, if_neg (by omega)]
    exact ih
theorem c2_v : ∀ n : Nat, s < n → gI (c2I σ n) 137 s = (if s = 0 then 1 else 0) ∧ gI (c2I σ n) 136 s = 0 := by
  intro n
  induction n with
  | zero => intro h; omega
  | succ n ih =>
    intro h
    show gI (sI (sI (c2I σ n) 137 n (if n = 0 then 1 else 0)) 136 n 0) 137 s = _ ∧ gI (sI (sI (c2I σ n) 137 n (if n = 0 then 1 else 0)) 136 n 0) 136 s = 0
    refine ⟨?_, ?_⟩
    · rw [gI_sI, if_neg (by omega), gI_sI]
      by_cases e : s = n
      · rw [if_pos ⟨rfl, e⟩, e]
      · rw [if_neg (fun z => e z.2)]
        exact (ih (by omega)).1
    · rw [gI_sI]
      by_cases e : s = n
      · rw [if_pos ⟨rfl, e⟩]
      · rw [if_neg (fun z => e z.2), gI_sI, if_neg (by omega)]
        exact (ih (by omega)).2
theorem L480a {x1 : Int} : RR (lkB tb480) (B480_12, [some (mR (some 80)), some (mI x1), some (mI 0), none, none, none, none, none, none, none, none, none], [], σ) = RR (lkB tb480) (B480_49, [some (mR (some 80)), some (mI x1), some (mI 0), none, none, none, none, none, none, none, none, none], [], c2I σ 201) := by
  have key : ∀ m : Nat, m ≤ 201 → RR (lkB tb480) (B480_12, [some (mR (some 80)), some (mI x1), some (mI ((201 - m : Nat) : Int)), none, none, none, none, none, none, none, none, none], [], c2I σ (201 - m)) = RR (lkB tb480) (B480_49, [some (mR (some 80)), some (mI x1), some (mI 0), none, none, none, none, none, none, none, none, none], [], c2I σ 201) := by
    intro m
    induction m with
    | zero =>
      intro _
      rw [e480_12, if_pos (by decide)]
    | succ m ih =>
      intro hm
      have ih := ih (by omega)
      obtain ⟨r, hr⟩ : ∃ r, r = 201 - (m + 1) := ⟨_, rfl⟩
      have e1 : 201 - m = r + 1 := by omega
      rw [e1] at ih
      rw [← hr]
      have nl : ¬ 200 < (r : Int) := by omega
      have b0 : 0 ≤ (r : Int) ∧ (r : Int) < 201 := by omega
      have r6 : r < 100000 := by omega
      have e2 : c2I σ (r + 1) = sI (sI (c2I σ r) 137 r (if r = 0 then 1 else 0)) 136 r 0 := rfl
      rw [e2] at ih
      rw [e480_12]
      by_cases z : r = 0
      · have z0 : (r : Int) = 0 := by omega
        rw [if_pos z] at ih
        simp only [e480_33, Option.getD_some, Option.bind_some, Option.toList_some, Option.toList_none, List.cons_append, List.nil_append, and_self, and_true, true_and, false_and, and_false, ite_self, not_true_eq_false, not_false_eq_true, reduceIte, Nat.reduceEqDiff, ab_I, ab_L, ab_R, ao_I, ao_L, ao_R, gL_sL, gI_sI, gR_sR, gI_sL, gI_sR, gL_sI, gL_sR, gR_sI, gR_sL, nl, eq_true z0, g_137, g_136, b0.1, b0.2, Int.toNat_natCast, show (0 : Int) % 2 = 0 from rfl, show (1 : Int) % 2 = 1 from rfl, w32_s r6]
        exact ih
      · have z0 : ¬ (r : Int) = 0 := by omega
        rw [if_neg z] at ih
        simp only [e480_33, Option.getD_some, Option.bind_some, Option.toList_some, Option.toList_none, List.cons_append, List.nil_append, and_self, and_true, true_and, false_and, and_false, ite_self, not_true_eq_false, not_false_eq_true, reduceIte, Nat.reduceEqDiff, ab_I, ab_L, ab_R, ao_I, ao_L, ao_R, gL_sL, gI_sI, gR_sR, gI_sL, gI_sR, gL_sI, gL_sR, gR_sI, gR_sL, nl, z0, g_137, g_136, b0.1, b0.2, Int.toNat_natCast, show (0 : Int) % 2 = 0 from rfl, w32_s r6]
        exact ih
  have := key 201 (Nat.le_refl _)
  rw [Nat.sub_self] at this
  exact this
/-- where functions begin -/
theorem L480b (h : okSl σ) (hn : n = szA σ) (hp : ∀ j, p j = wdA σ j) (hS : mkS σ 135 S) : ∀ (j m : Nat) (τ : MS), n = m + j → pq τ σ → gI τ 80 90 = gI σ 80 90 → gI τ 80 87 = gI σ 80 87 → mkS τ 136 (fun _ => false) → mkS τ 137 (bgM p n S m) → ∃ ρ, RR (lkB tb480) (B480_49, [some (mR (some 80)), some (mI (n : Int)), some (mI (m : Int)), none, none, none, none, none, none, none, none, none], [], τ) = RR (lkB tb480) (B480_115, [some (mR (some 80)), some (mI (n : Int)), some (mI 0), some (mI 0), none, none, none, none, none, none, none, none], [], ρ) ∧ pq ρ σ ∧ gI ρ 80 90 = gI σ 80 90 ∧ gI ρ 80 87 = gI σ 80 87 ∧ mkS ρ 136 (fun _ => false) ∧ mkS ρ 137 (bgM p n S n) := by
  obtain ⟨z1, z2, z3, z4⟩ := sl_sz h
  intro j
  induction j with
  | zero =>
    intro m τ e q g90 g87 m6 m7
    have em : m = n := by omega
    subst em
    refine ⟨τ, ?_, q, g90, g87, m6, m7⟩
    rw [e480_49, if_pos (Int.le_refl _)]
  | succ j ih =>
    intro m τ e q g90 g87 m6 m7
    obtain ⟨sl, wd, sz, js⟩ := pq_sl q h
    have mn : m < n := by omega
    have m200 : m < 200 := by omega
    have nl : ¬ (n : Int) ≤ (m : Int) := by omega
    have b0 : 0 ≤ (m : Int) ∧ (m : Int) < 201 := by omega
    have m1000 : 0 ≤ (m : Int) ∧ (m : Int) < 1000 := by omega
    have m6' : m < 100000 := by omega
    have g5 : gI τ 135 m = if S m = true then 1 else 0 := (q.1 _ _ (by omega) (by omega)).trans (hS m (by omega))
    have t4 := T474 sl m200
    rw [wd m, ← hp m] at t4
    have t9 := T479 (w := p m) (σ := τ)
    have t7 := T477 (w := p m) (σ := τ) m1000
    have gb := go_b m200 (p m)
    -- nothing is marked
    have skip : (∀ x, x < 201 → bgM p n S (m + 1) x = bgM p n S m x) → ∃ ρ, RR (lkB tb480) (B480_105, [some (mR (some 80)), some (mI (n : Int)), some (mI (m : Int)), none, none, none, none, none, none, none, none, none], [], τ) = RR (lkB tb480) (B480_115, [some (mR (some 80)), some (mI (n : Int)), some (mI 0), some (mI 0), none, none, none, none, none, none, none, none], [], ρ) ∧ pq ρ σ ∧ gI ρ 80 90 = gI σ 80 90 ∧ gI ρ 80 87 = gI σ 80 87 ∧ mkS ρ 136 (fun _ => false) ∧ mkS ρ 137 (bgM p n S n) := fun hb => by
      obtain ⟨ρ, e1, e2⟩ := ih (m + 1) τ (by omega) q g90 g87 m6 (fun x hx => by rw [hb x hx]; exact m7 x hx)
      refine ⟨ρ, ?_, e2⟩
      rw [e480_105, w32_s m6']
      exact e1
    by_cases s1 : S m = true
    · rw [if_pos s1] at g5
      by_cases ic : isCal (p m)
      · rw [b2_yes ic] at t9
        have t8 := T478 (x := w32 (goal m (p m))) sl
        by_cases th : (0 ≤ goal m (p m) ∧ (goal m (p m)).toNat < n) ∧ S (goal m (p m)).toNat = true
        · have wg : w32 (goal m (p m)) = goal m (p m) := w32_i (by omega) (by omega)
          have gn : 0 ≤ goal m (p m) ∧ goal m (p m) < 201 := by omega
          rw [wg] at t7 t8
          have c8 : (0 ≤ goal m (p m) ∧ (goal m (p m)).toNat < szA τ) ∧ ¬ gI τ 135 (goal m (p m)).toNat = 0 := by
            refine ⟨⟨th.1.1, by rw [sz, ← hn]; exact th.1.2⟩, ?_⟩
            rw [q.1 _ _ (by omega) (by omega), hS _ (by omega), if_pos th.2]
            decide
          rw [b2_yes c8] at t8
          obtain ⟨ρ, e1, e2⟩ := ih (m + 1) (sI τ 137 (goal m (p m)).toNat 1) (by omega) (pq_t (pq_sI (Or.inr (Or.inl rfl))) q) (by rw [gI_sI, if_neg (by omega)]; exact g90) (by rw [gI_sI, if_neg (by omega)]; exact g87) (fun x hx => by rw [gI_sI, if_neg (by omega)]; exact m6 x hx) (fun x hx => by
            rw [gI_sI, bg_s]
            by_cases ex : x = (goal m (p m)).toNat
            · have ex2 : goal m (p m) = (x : Int) := by omega
              have : (decide (x < n) && S x && (S m && decide (isCal (p m) ∧ goal m (p m) = x))) = true := by
                rw [decide_eq_true (by omega : x < n), show S x = true by rw [ex]; exact th.2, s1, decide_eq_true (⟨ic, ex2⟩ : isCal (p m) ∧ goal m (p m) = x)]
                rfl
              rw [if_pos ⟨rfl, ex⟩, this, Bool.or_true, if_pos rfl]
            · have ex2 : ¬ goal m (p m) = (x : Int) := by omega
              have : (decide (x < n) && S x && (S m && decide (isCal (p m) ∧ goal m (p m) = x))) = false := by
                rw [decide_eq_false (fun z => ex2 z.2 : ¬ (isCal (p m) ∧ goal m (p m) = x))]
                simp
              rw [if_neg (fun z => ex z.2), this, Bool.or_false]
              exact m7 x hx)
          refine ⟨ρ, ?_, e2⟩
          rw [← e1, e480_49]
          simp only [e480_68, e480_71, e480_81, e480_84, e480_87, e480_100, e480_103, e480_105, Option.getD_some, Option.bind_some, Option.toList_some, Option.toList_none, List.cons_append, List.nil_append, and_self, and_true, true_and, false_and, and_false, ite_self, not_true_eq_false, not_false_eq_true, reduceIte, Nat.reduceEqDiff, ab_I, ab_L, ab_R, ao_I, ao_L, ao_R, gL_sL, gI_sI, gR_sR, gI_sL, gI_sR, gL_sI, gL_sR, gR_sI, gR_sL, nl, g_135, g_137, b0.1, b0.2, Int.toNat_natCast, g5, oneI, t4, t9, t7, t8, gn.1, gn.2, show (1 : Int) % 2 = 1 from rfl, w32_s m6']
        · have c8 : ¬ ((0 ≤ w32 (goal m (p m)) ∧ (w32 (goal m (p m))).toNat < szA τ) ∧ ¬ gI τ 135 (w32 (goal m (p m))).toNat = 0) := fun z => by
            have z' := (th_w (n := n) (P := fun k => ¬ gI τ 135 k = 0) gb (by omega)).mp ⟨⟨z.1.1, by rw [hn, ← sz]; exact z.1.2⟩, z.2⟩
            refine th ⟨z'.1, Decidable.byContradiction fun y => z'.2 ?_⟩
            rw [q.1 _ _ (by omega) (by omega), hS _ (by omega), if_neg y]
          rw [b2_no c8] at t8
          have hb : ∀ x, x < 201 → bgM p n S (m + 1) x = bgM p n S m x := fun x hx => by
            rw [bg_s]
            have : (decide (x < n) && S x && (S m && decide (isCal (p m) ∧ goal m (p m) = x))) = false := by
              by_cases a1 : x < n
              · by_cases a2 : S x = true
                · have a3 : ¬ goal m (p m) = (x : Int) := fun y => th (by rw [y]; exact ⟨⟨by omega, by omega⟩, by rw [Int.toNat_natCast]; exact a2⟩)
                  rw [decide_eq_false (fun z => a3 z.2 : ¬ (isCal (p m) ∧ goal m (p m) = x))]
                  simp
                · have a2 : S x = false := by cases hS : S x with | true => exact absurd hS a2 | false => rfl
                  rw [a2]
                  simp
              · rw [decide_eq_false a1]
                simp
            rw [this, Bool.or_false]
          obtain ⟨ρ, e1, e2⟩ := skip hb
          refine ⟨ρ, ?_, e2⟩
          rw [← e1, e480_49]
          simp only [e480_68, e480_71, e480_81, e480_84, e480_87, Option.getD_some, Option.bind_some, Option.toList_some, Option.toList_none, List.cons_append, List.nil_append, and_self, and_true, true_and, false_and, and_false, ite_self, not_true_eq_false, not_false_eq_true, reduceIte, Nat.reduceEqDiff, ab_I, ab_L, ab_R, ao_I, ao_L, ao_R, gL_sL, gI_sI, gR_sR, gI_sL, gI_sR, gL_sI, gL_sR, gR_sI, gR_sL, nl, g_135, b0.1, b0.2, Int.toNat_natCast, g5, oneI, t4, t9, t7, t8]
      · rw [b2_no ic] at t9
        have hb : ∀ x, x < 201 → bgM p n S (m + 1) x = bgM p n S m x := fun x hx => by
          rw [bg_s, decide_eq_false (fun z => ic z.1 : ¬ (isCal (p m) ∧ goal m (p m) = x))]
          simp
        obtain ⟨ρ, e1, e2⟩ := skip hb
        refine ⟨ρ, ?_, e2⟩
        rw [← e1, e480_49]
        simp only [e480_68, e480_71, Option.getD_some, Option.bind_some, Option.toList_some, Option.toList_none, List.cons_append, List.nil_append, and_self, and_true, true_and, false_and, and_false, ite_self, not_true_eq_false, not_false_eq_true, reduceIte, Nat.reduceEqDiff, ab_I, ab_L, ab_R, ao_I, ao_L, ao_R, gL_sL, gI_sI, gR_sR, gI_sL, gI_sR, gL_sI, gL_sR, gR_sI, gR_sL, nl, g_135, b0.1, b0.2, Int.toNat_natCast, g5, oneI, t4, t9]
    · have s1f : S m = false := by cases hS : S m with | true => exact absurd hS s1 | false => rfl
      rw [if_neg s1] at g5
      have hb : ∀ x, x < 201 → bgM p n S (m + 1) x = bgM p n S m x := fun x hx => by
        rw [bg_s, s1f]
        simp
      obtain ⟨ρ, e1, e2⟩ := skip hb
      refine ⟨ρ, ?_, e2⟩
      rw [← e1, e480_49]
      simp only [Option.getD_some, Option.bind_some, Option.toList_some, Option.toList_none, List.cons_append, List.nil_append, and_self, and_true, true_and, false_and, and_false, ite_self, not_true_eq_false, not_false_eq_true, reduceIte, Nat.reduceEqDiff, ab_I, ab_L, ab_R, ao_I, ao_L, ao_R, gL_sL, gI_sI, gR_sR, gI_sL, gI_sR, gL_sI, gL_sR, gR_sI, gR_sL, nl, g_135, b0.1, b0.2, Int.toNat_natCast, g5]
end PLC
