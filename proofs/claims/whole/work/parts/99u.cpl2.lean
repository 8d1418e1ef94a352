/-! ===== the class's judge: FORM, PLACE ===== -/
/-- what FORM and PLACE may change -/
def cpq (τ σ : MS) : Prop := (∀ q s, ¬ (q = 51 ∧ (s = 0 ∨ s = 3)) → ¬ (54 ≤ q ∧ q ≤ 57) → gI τ q s = gI σ q s) ∧ τ.2 = σ.2
section CPL2
variable {σ τ ρ : MS} {i n k s m cc : Nat} {S B J : Nat → Bool} {p : Nat → B64} {w : B64}
theorem cpq_r (σ : MS) : cpq σ σ := ⟨fun _ _ _ _ => rfl, rfl⟩
theorem cpq_t {a b c : MS} (h1 : cpq a b) (h2 : cpq b c) : cpq a c := ⟨fun q s x y => (h1.1 q s x y).trans (h2.1 q s x y), h1.2.trans h2.2⟩
theorem cpq_i {q s : Nat} {v : Int} (h : (q = 51 ∧ (s = 0 ∨ s = 3)) ∨ (54 ≤ q ∧ q ≤ 57)) : cpq (sI σ q s v) σ := ⟨fun q' s' x y => by rw [gI_sI, if_neg (by omega)], rfl⟩
theorem cpq_L {q s : Nat} (h : cpq τ σ) : gL τ q s = gL σ q s := by
  unfold gL
  rw [h.2]
theorem cpq_R {q s : Nat} (h : cpq τ σ) : gR τ q s = gR σ q s := by
  unfold gR
  rw [h.2]
theorem kcc (h : 7 ≤ cc ∧ cc ≤ 14) (σ : MS) : kd σ cc = (4, 200) := by
  obtain ⟨c1, c2⟩ := h
  have o : cc = 7 ∨ cc = 8 ∨ cc = 9 ∨ cc = 10 ∨ cc = 11 ∨ cc = 12 ∨ cc = 13 ∨ cc = 14 := by omega
  rcases o with e | e | e | e | e | e | e | e <;> (rw [e]; rfl)
theorem gcc (h : 7 ≤ cc ∧ cc ≤ 14) {j : Int} : (Option.isSome (some cc) = true ∧ ab σ 4 cc j) = (0 ≤ j ∧ j < 200) := gdK (n := 200) (kcc h σ)
/-- FORM -/
theorem L30 (hc : 7 ≤ cc ∧ cc ≤ 14) (hn : n ≤ 200) (hp : ∀ j, p j = gL σ cc j) (g4 : gI σ 39 4 = (n : Int)) : ∀ (f i t : Nat) (S : Nat → Bool) (ρ : MS), t ≤ i → i ≤ n → n < i + f → cpq ρ σ → gI ρ 51 0 = gI σ 51 0 ∧ gI ρ 51 3 = gI σ 51 3 → mkC ρ 54 S → (∀ q s, 55 ≤ q → q ≤ 57 → gI ρ q s = gI σ q s) →
    okc (RR (lkB tb30) (B30_4, [some (mR (some 39)), some (mR (some cc)), some (mI (i : Int)), some (mI (t : Int)), none], [], ρ)) (some (mI (if (frmP p n f i S).1 = none then 0 else 1))) (fun τ => cpq τ σ ∧ (∀ q s, 55 ≤ q → q ≤ 57 → gI τ q s = gI σ q s) ∧ ((frmP p n f i S).1 = none → (gI τ 51 0 = gI σ 51 0 ∧ gI τ 51 3 = gI σ 51 3) ∧ mkC τ 54 (frmP p n f i S).2) ∧ ∀ j, (frmP p n f i S).1 = some j → gI τ 51 0 = (j : Int) ∧ gI τ 51 3 = 0) := by
  intro f
  induction f with
  | zero => intro i t S ρ h1 h2 h3; omega
  | succ f ih =>
    intro i t S ρ h1 h2 h3 q g0 mk g5
    have r4 : gI ρ 39 4 = (n : Int) := (q.1 _ _ (by omega) (by omega)).trans g4
    unfold frmP
    by_cases c : n ≤ i
    · rw [if_pos c, if_pos rfl]
      refine okc_o (τ := ρ) ?_ ⟨q, g5, fun _ => ⟨g0, mk⟩, fun j e => (by cases e)⟩
      have ci : (n : Int) ≤ (i : Int) := by omega
      by_cases ct : (n : Int) ≤ (t : Int)
      · simp only [e30_4, Option.getD_some, Option.bind_some, Option.toList_some, Option.toList_none, List.cons_append, List.nil_append, and_self, and_true, true_and, false_and, and_false, ite_self, not_true_eq_false, not_false_eq_true, reduceIte, Nat.reduceEqDiff, ab_I, ab_L, ab_R, ao_I, ao_L, ao_R, gL_sL, gI_sI, gR_sR, gI_sL, gI_sR, gL_sI, gL_sR, gR_sI, gR_sL, r4, ct]
      · simp only [e30_4, Option.getD_some, Option.bind_some, Option.toList_some, Option.toList_none, List.cons_append, List.nil_append, and_self, and_true, true_and, false_and, and_false, ite_self, not_true_eq_false, not_false_eq_true, reduceIte, Nat.reduceEqDiff, ab_I, ab_L, ab_R, ao_I, ao_L, ao_R, gL_sL, gI_sI, gR_sR, gI_sL, gI_sR, gL_sI, gL_sR, gR_sI, gR_sL, r4, ct, ci]
    · rw [if_neg c]
      have ci : ¬ (n : Int) ≤ (i : Int) := by omega
      have ct : ¬ (n : Int) ≤ (t : Int) := by omega
      have t6 := T6 (σ := ρ) (k := cc) (n := n) (i := i) hn (by omega) (fun j => gcc hc)
      rw [show (fun j => gL ρ cc j) = p from funext fun j => (cpq_L q).trans (hp j).symm] at t6
      by_cases z : spn p n i = 0
      · rw [if_pos z, if_neg (by intro y; cases y)]
        rw [z] at t6
        refine okc_o (τ := sI (sI ρ 51 0 (i : Int)) 51 3 0) ?_ ⟨cpq_t (cpq_i (by omega)) (cpq_t (cpq_i (by omega)) q), fun q' s' a b => ?_, fun y => (by cases y), fun j e => ?_⟩
        · have t29 := T29 (σ := ρ) (x1 := 1) (x2 := (i : Int))
          have t6' : MM 6 [mR (some cc), mI (n : Int), mI (i : Int)] ρ = some (some (mI 0), ρ) := t6
          simp only [e30_4, e30_29, e30_42, Option.getD_some, Option.bind_some, Option.toList_some, Option.toList_none, List.cons_append, List.nil_append, and_self, and_true, true_and, false_and, and_false, ite_self, not_true_eq_false, not_false_eq_true, reduceIte, Nat.reduceEqDiff, ab_I, ab_L, ab_R, ao_I, ao_L, ao_R, gL_sL, gI_sI, gR_sR, gI_sL, gI_sR, gL_sI, gL_sR, gR_sI, gR_sL, r4, ct, ci, t6', t29]
        · rw [gI_sI, if_neg (by omega), gI_sI, if_neg (by omega)]
          exact g5 q' s' a b
        · have e : i = j := Option.some.inj e
          rw [← e, gI_sI, if_neg (by omega), gI_sI, if_pos ⟨rfl, rfl⟩, gI_sI, if_pos ⟨rfl, rfl⟩]
          exact ⟨rfl, rfl⟩
      · rw [if_neg z]
        have s2 := spn_le (p := p) (n := n) i
        have fit : i + spn p n i ≤ n := by
          unfold spn at z ⊢
          by_cases o : fOp (p i) = 24
          · rw [if_pos o] at z ⊢
            by_cases y : i + 1 < n ∧ okPr (p i) (p (i + 1))
            · rw [if_pos y]
              omega
            · rw [if_neg y] at z
              exact absurd rfl z
          · rw [if_neg o]
            split <;> omega
        have b0 : 0 ≤ (i : Int) ∧ (i : Int) < 200 := by omega
        have nz : ¬ ((spn p n i : Nat) : Int) = 0 := by omega
        have o1 : t + 1 ≤ i + spn p n i := by omega
        have o2 : n < i + spn p n i + f := by omega
        have o3 : t < 100000 := by omega
        have o4 : -2147483648 ≤ (i : Int) + ((spn p n i : Nat) : Int) ∧ (i : Int) + ((spn p n i : Nat) : Int) < 2147483648 := by omega
        have o5 : (i : Int) + ((spn p n i : Nat) : Int) = ((i + spn p n i : Nat) : Int) := by omega
        have tt := ih (i + spn p n i) (t + 1) (fun j => if j = i then true else S j) (sI ρ 54 i 1) o1 fit o2 (cpq_t (cpq_i (by omega)) q) ⟨by rw [gI_sI, if_neg (by omega)]; exact g0.1, by rw [gI_sI, if_neg (by omega)]; exact g0.2⟩ (fun j hj => by
          rw [gI_sI]
          by_cases e : j = i
          · rw [if_pos ⟨rfl, e⟩]
            show (1 : Int) = if (if j = i then true else S j) = true then 1 else 0
            rw [if_pos e, if_pos rfl]
          · rw [if_neg (fun y => e y.2)]
            show _ = if (if j = i then true else S j) = true then (1 : Int) else 0
            rw [if_neg e]
            exact mk j hj) (fun q' s' a b => by
          rw [gI_sI, if_neg (by omega)]
          exact g5 q' s' a b)
        have w1 : w32 ((i : Int) + ((spn p n i : Nat) : Int)) = ((i + spn p n i : Nat) : Int) := (w32_i o4.1 o4.2).trans o5
        have w2 : w32 ((t : Int) + 1) = ((t + 1 : Nat) : Int) := w32_s o3
        rw [e30_4]
        simp only [e30_29, Option.getD_some, Option.bind_some, Option.toList_some, Option.toList_none, List.cons_append, List.nil_append, and_self, and_true, true_and, false_and, and_false, ite_self, not_true_eq_false, not_false_eq_true, reduceIte, Nat.reduceEqDiff, ab_I, ab_L, ab_R, ao_I, ao_L, ao_R, gL_sL, gI_sI, gR_sR, gI_sL, gI_sR, gL_sI, gL_sR, gR_sI, gR_sL, r4, ct, ci, t6, nz, g_54, b0.1, b0.2, Int.toNat_natCast, w1, w2, show (1 : Int) % 2 = 1 from rfl]
        exact okc_q (by repeat (first | exact lq_nil | refine lq_cons (Or.inr rfl) ?_ | refine lq_cons (Or.inl rfl) ?_)) tt
theorem T30 (hc : 7 ≤ cc ∧ cc ≤ 14) (hn : n ≤ 200) (hp : ∀ j, p j = gL σ cc j) (g4 : gI σ 39 4 = (n : Int)) (mk : mkC σ 54 (fun _ => false)) : okc (MM 30 [mR (some 39), mR (some cc)] σ) (some (mI (if (frmP p n (n + 1) 0 (fun _ => false)).1 = none then 0 else 1))) (fun τ => cpq τ σ ∧ (∀ q s, 55 ≤ q → q ≤ 57 → gI τ q s = gI σ q s) ∧ ((frmP p n (n + 1) 0 (fun _ => false)).1 = none → (gI τ 51 0 = gI σ 51 0 ∧ gI τ 51 3 = gI σ 51 3) ∧ mkC τ 54 (frmP p n (n + 1) 0 (fun _ => false)).2) ∧ ∀ j, (frmP p n (n + 1) 0 (fun _ => false)).1 = some j → gI τ 51 0 = (j : Int) ∧ gI τ 51 3 = 0) := by
  have t := L30 hc hn hp g4 (n + 1) 0 0 (fun _ => false) σ (Nat.le_refl _) (Nat.zero_le _) (by omega) (cpq_r σ) ⟨rfl, rfl⟩ mk (fun _ _ _ _ => rfl)
  have s4 : MM 30 [mR (some 39), mR (some cc)] σ = RR (lkB tb30) (B30_4, [some (mR (some 39)), some (mR (some cc)), some (mI ((0 : Nat) : Int)), some (mI ((0 : Nat) : Int)), none], [], σ) := by
    simp only [M30, e30_0]
    rfl
  rw [s4]
  exact t
/-- where functions begin -/
theorem L32a (hc : 7 ≤ cc ∧ cc ≤ 14) (hn : n ≤ 200) (hp : ∀ j, p j = gL σ cc j) (g4 : gI σ 39 4 = (n : Int)) (mS : mkC σ 54 S) : ∀ (f i : Nat) (x3 : Option MV) (ρ : MS), i + f = n → cpq ρ σ → (∀ q s, q = 54 ∨ q = 56 ∨ q = 57 ∨ q = 51 → gI ρ q s = gI σ q s) → mkC ρ 55 (bgM p n S i) →
    ∃ τ, (∀ v P, okc (RR (lkB tb32) (B32_77, [some (mR (some 39)), some (mR (some cc)), some (mI 0), some (mI 0)], [], τ)) v P → okc (RR (lkB tb32) (B32_9, [some (mR (some 39)), some (mR (some cc)), some (mI (i : Int)), none], [], ρ)) v P) ∧ cpq τ σ ∧ (∀ q s, q = 54 ∨ q = 56 ∨ q = 57 ∨ q = 51 → gI τ q s = gI σ q s) ∧ mkC τ 55 (bgM p n S n) := by
  intro f
  induction f with
  | zero =>
    intro i x3 ρ e q g5 mk
    have e : i = n := by omega
    subst e
    have r4 : gI ρ 39 4 = (i : Int) := (q.1 _ _ (by omega) (by omega)).trans g4
    refine ⟨ρ, fun v P h => ?_, q, g5, mk⟩
    simp only [e32_9, Option.getD_some, Option.bind_some, Option.toList_some, Option.toList_none, List.cons_append, List.nil_append, and_self, and_true, true_and, false_and, and_false, ite_self, not_true_eq_false, not_false_eq_true, reduceIte, Nat.reduceEqDiff, ab_I, ab_L, ab_R, ao_I, ao_L, ao_R, gL_sL, gI_sI, gR_sR, gI_sL, gI_sR, gL_sI, gL_sR, gR_sI, gR_sL, r4, Int.le_refl]
    exact h
  | succ f ih =>
    intro i x3 ρ e q g5 mk
    have r4 : gI ρ 39 4 = (n : Int) := (q.1 _ _ (by omega) (by omega)).trans g4
    have i200 : i < 200 := by omega
    have b0 : 0 ≤ (i : Int) ∧ (i : Int) < 200 := by omega
    have nl : ¬ (n : Int) ≤ (i : Int) := by omega
    have ww : w32 ((i : Int) + 1) = ((i + 1 : Nat) : Int) := w32_s (by omega)
    have g54 : gI ρ 54 i = if S i = true then 1 else 0 := (g5 54 i (Or.inl rfl)).trans (mS i i200)
    have pl : gL ρ cc i = p i := (cpq_L q).trans (hp i).symm
    have t14 := T14 (w := p i) (σ := ρ)
    have t15 := T15 (w := p i) (σ := ρ) (i := i) (n := n) i200 hn
    -- the next word
    have nxt : ∀ ρ' : MS, cpq ρ' σ → (∀ q s, q = 54 ∨ q = 56 ∨ q = 57 ∨ q = 51 → gI ρ' q s = gI σ q s) → mkC ρ' 55 (bgM p n S (i + 1)) → (∀ v P, okc (RR (lkB tb32) (B32_9, [some (mR (some 39)), some (mR (some cc)), some (mI ((i + 1 : Nat) : Int)), none], [], ρ')) v P → okc (RR (lkB tb32) (B32_9, [some (mR (some 39)), some (mR (some cc)), some (mI (i : Int)), none], [], ρ)) v P) →
        ∃ τ, (∀ v P, okc (RR (lkB tb32) (B32_77, [some (mR (some 39)), some (mR (some cc)), some (mI 0), some (mI 0)], [], τ)) v P → okc (RR (lkB tb32) (B32_9, [some (mR (some 39)), some (mR (some cc)), some (mI (i : Int)), none], [], ρ)) v P) ∧ cpq τ σ ∧ (∀ q s, q = 54 ∨ q = 56 ∨ q = 57 ∨ q = 51 → gI τ q s = gI σ q s) ∧ mkC τ 55 (bgM p n S n) := fun ρ' q' g5' mk' h => by
      obtain ⟨τ, a, b⟩ := ih (i + 1) none ρ' (by omega) q' g5' mk'
      exact ⟨τ, fun v P y => h v P (a v P y), b⟩
    have stay : (∀ j, j < 200 → bgM p n S (i + 1) j = bgM p n S i j) → mkC ρ 55 (bgM p n S (i + 1)) := fun h j hj => by
      rw [h j hj]
      exact mk j hj
    by_cases sI' : S i = true
    · rw [if_pos sI'] at g54
      by_cases ca : isCal (p i)
      · rw [b2_yes ca] at t14
        by_cases tg : 0 ≤ goal i (p i) ∧ goal i (p i) < (n : Int)
        · have et : tgC n i (p i) = goal i (p i) := if_pos tg
          rw [et] at t15
          obtain ⟨g, eg⟩ : ∃ g : Nat, goal i (p i) = (g : Int) := ⟨(goal i (p i)).toNat, by omega⟩
          rw [eg] at t15 tg
          have gb : 0 ≤ (g : Int) ∧ (g : Int) < 200 := by omega
          have ng : ¬ (g : Int) < 0 := by omega
          have gg : gI ρ 54 g = if S g = true then 1 else 0 := (g5 54 g (Or.inl rfl)).trans (mS g (by omega))
          by_cases sg : S g = true
          · rw [if_pos sg] at gg
            refine nxt (sI ρ 55 g 1) (cpq_t (cpq_i (by omega)) q) (fun q' s' a => by rw [gI_sI, if_neg (by omega)]; exact g5 q' s' a) (fun j hj => ?_) (fun v P y => ?_)
            · rw [gI_sI, bg_s, sI']
              by_cases ej : j = g
              · rw [if_pos ⟨rfl, ej⟩, ej, sg, decide_eq_true (show g < n by omega), decide_eq_true (show isCal (p i) ∧ goal i (p i) = (g : Int) from ⟨ca, eg⟩)]
                simp
              · rw [if_neg (fun y => ej y.2), decide_eq_false (show ¬ (isCal (p i) ∧ goal i (p i) = (j : Int)) from fun y => ej (by omega)), mk j hj]
                simp
            · rw [e32_9]
              simp only [e32_32, e32_46, Option.getD_some, Option.bind_some, Option.toList_some, Option.toList_none, List.cons_append, List.nil_append, and_self, and_true, true_and, false_and, and_false, ite_self, not_true_eq_false, not_false_eq_true, reduceIte, Nat.reduceEqDiff, ab_I, ab_L, ab_R, ao_I, ao_L, ao_R, gL_sL, gI_sI, gR_sR, gI_sL, gI_sR, gL_sI, gL_sR, gR_sI, gR_sL, r4, nl, g_54, g_55, b0.1, b0.2, gcc hc, Int.toNat_natCast, g54, oneI, pl, t14, t15, ng, gb.1, gb.2, gg, show (1 : Int) % 2 = 1 from rfl]
              refine okc_q (ls := [some (mR (some 39)), some (mR (some cc)), some (mI (i : Int)), none]) (by repeat (first | exact lq_nil | refine lq_cons (Or.inr rfl) ?_ | refine lq_cons (Or.inl rfl) ?_)) ?_
              rw [e32_67, ww]
              exact y
          · rw [if_neg sg] at gg
            refine nxt ρ q g5 (stay fun j hj => ?_) (fun v P y => ?_)
            · rw [bg_s]
              by_cases ej : j = g
              · have : S j = false := by rw [ej]; simpa using sg
                rw [this]
                simp
              · rw [decide_eq_false (show ¬ (isCal (p i) ∧ goal i (p i) = (j : Int)) from fun y => ej (by omega))]
                simp
            · rw [e32_9]
              simp only [e32_32, e32_46, Option.getD_some, Option.bind_some, Option.toList_some, Option.toList_none, List.cons_append, List.nil_append, and_self, and_true, true_and, false_and, and_false, ite_self, not_true_eq_false, not_false_eq_true, reduceIte, Nat.reduceEqDiff, ab_I, ab_L, ab_R, ao_I, ao_L, ao_R, gL_sL, gI_sI, gR_sR, gI_sL, gI_sR, gL_sI, gL_sR, gR_sI, gR_sL, r4, nl, g_54, g_55, b0.1, b0.2, gcc hc, Int.toNat_natCast, g54, oneI, pl, t14, t15, ng, gb.1, gb.2, gg]
              refine okc_q (ls := [some (mR (some 39)), some (mR (some cc)), some (mI (i : Int)), none]) (by repeat (first | exact lq_nil | refine lq_cons (Or.inr rfl) ?_ | refine lq_cons (Or.inl rfl) ?_)) ?_
              rw [e32_67, ww]
              exact y
        · have et : tgC n i (p i) = -1 := if_neg tg
          rw [et] at t15
          refine nxt ρ q g5 (stay fun j hj => ?_) (fun v P y => ?_)
          · rw [bg_s]
            by_cases jn : j < n
            · rw [decide_eq_false (show ¬ (isCal (p i) ∧ goal i (p i) = (j : Int)) from fun y => tg (by omega))]
              simp
            · rw [decide_eq_false jn]
              simp
          · rw [e32_9]
            simp only [e32_32, e32_46, Option.getD_some, Option.bind_some, Option.toList_some, Option.toList_none, List.cons_append, List.nil_append, and_self, and_true, true_and, false_and, and_false, ite_self, not_true_eq_false, not_false_eq_true, reduceIte, Nat.reduceEqDiff, ab_I, ab_L, ab_R, ao_I, ao_L, ao_R, gL_sL, gI_sI, gR_sR, gI_sL, gI_sR, gL_sI, gL_sR, gR_sI, gR_sL, r4, nl, g_54, g_55, b0.1, b0.2, gcc hc, Int.toNat_natCast, g54, oneI, pl, t14, t15, Int.reduceLT]
            refine okc_q (ls := [some (mR (some 39)), some (mR (some cc)), some (mI (i : Int)), none]) (by repeat (first | exact lq_nil | refine lq_cons (Or.inr rfl) ?_ | refine lq_cons (Or.inl rfl) ?_)) ?_
            rw [e32_67, ww]
            exact y
      · rw [b2_no ca] at t14
        refine nxt ρ q g5 (stay fun j hj => ?_) (fun v P y => ?_)
        · rw [bg_s, decide_eq_false (show ¬ (isCal (p i) ∧ goal i (p i) = (j : Int)) from fun y => ca y.1)]
          simp
        · rw [e32_9]
          simp only [e32_32, e32_67, Option.getD_some, Option.bind_some, Option.toList_some, Option.toList_none, List.cons_append, List.nil_append, and_self, and_true, true_and, false_and, and_false, ite_self, not_true_eq_false, not_false_eq_true, reduceIte, Nat.reduceEqDiff, ab_I, ab_L, ab_R, ao_I, ao_L, ao_R, gL_sL, gI_sI, gR_sR, gI_sL, gI_sR, gL_sI, gL_sR, gR_sI, gR_sL, r4, nl, g_54, b0.1, b0.2, gcc hc, Int.toNat_natCast, g54, oneI, pl, t14, ww]
          exact okc_q (by repeat (first | exact lq_nil | refine lq_cons (Or.inr rfl) ?_ | refine lq_cons (Or.inl rfl) ?_)) y
    · rw [if_neg sI'] at g54
      refine nxt ρ q g5 (stay fun j hj => ?_) (fun v P y => ?_)
      · have : S i = false := by simpa using sI'
        rw [bg_s, this]
        simp
      · rw [e32_9]
        simp only [e32_67, Option.getD_some, Option.bind_some, Option.toList_some, Option.toList_none, List.cons_append, List.nil_append, and_self, and_true, true_and, false_and, and_false, ite_self, not_true_eq_false, not_false_eq_true, reduceIte, Nat.reduceEqDiff, ab_I, ab_L, ab_R, ao_I, ao_L, ao_R, gL_sL, gI_sI, gR_sR, gI_sL, gI_sR, gL_sI, gL_sR, gR_sI, gR_sL, r4, nl, g_54, b0.1, b0.2, Int.toNat_natCast, g54, ww]
        exact okc_q (by repeat (first | exact lq_nil | refine lq_cons (Or.inr rfl) ?_ | refine lq_cons (Or.inl rfl) ?_)) y
/-- of each word its function -/
theorem L32b (hn : n ≤ 200) (g4 : gI σ 39 4 = (n : Int)) (mB : mkC σ 55 B) (b0' : B 0 = true) {x1 : Option Nat} : ∀ (f i : Nat) (ρ : MS), i + f = n → cpq ρ σ → (∀ q s, ¬ q = 57 → gI ρ q s = gI σ q s) → (∀ j, j < i → gI ρ 57 j = ((fnoP B j : Nat) : Int)) →
    okc (RR (lkB tb32) (B32_77, [some (mR (some 39)), some (mR x1), some (mI ((fnoP B (i - 1) : Nat) : Int)), some (mI (i : Int))], [], ρ)) none (fun τ => cpq τ σ ∧ (∀ q s, ¬ q = 57 → gI τ q s = gI σ q s) ∧ ∀ j, j < n → gI τ 57 j = ((fnoP B j : Nat) : Int)) := by
  intro f
  induction f with
  | zero =>
    intro i ρ e q g5 h
    have e : i = n := by omega
    subst e
    have r4 : gI ρ 39 4 = (i : Int) := (g5 _ _ (by omega)).trans g4
    refine okc_o (τ := ρ) ?_ ⟨q, g5, h⟩
    simp only [e32_77, Option.getD_some, Option.bind_some, Option.toList_some, Option.toList_none, List.cons_append, List.nil_append, and_self, and_true, true_and, false_and, and_false, ite_self, not_true_eq_false, not_false_eq_true, reduceIte, Nat.reduceEqDiff, ab_I, ab_L, ab_R, ao_I, ao_L, ao_R, gL_sL, gI_sI, gR_sR, gI_sL, gI_sR, gL_sI, gL_sR, gR_sI, gR_sL, r4, Int.le_refl]
  | succ f ih =>
    intro i ρ e q g5 h
    have r4 : gI ρ 39 4 = (n : Int) := (g5 _ _ (by omega)).trans g4
    have b0 : 0 ≤ (i : Int) ∧ (i : Int) < 200 := by omega
    have nl : ¬ (n : Int) ≤ (i : Int) := by omega
    have ww : w32 ((i : Int) + 1) = ((i + 1 : Nat) : Int) := w32_s (by omega)
    have g55 : gI ρ 55 i = if B i = true then 1 else 0 := (g5 55 i (by omega)).trans (mB i (by omega))
    have t := ih (i + 1) (sI ρ 57 i ((fnoP B i : Nat) : Int)) (by omega) (cpq_t (cpq_i (by omega)) q) (fun q' s' a => by rw [gI_sI, if_neg (by omega)]; exact g5 q' s' a) (fun j hj => by
      rw [gI_sI]
      by_cases ej : j = i
      · rw [if_pos ⟨rfl, ej⟩, ej]
      · rw [if_neg (fun y => ej y.2)]
        exact h j (by omega))
    rw [Nat.add_sub_cancel] at t
    by_cases bi : B i = true
    · have ef : fnoP B i = i := by
        cases i with
        | zero => rfl
        | succ i => exact if_pos bi
      rw [if_pos bi] at g55
      rw [ef] at t
      rw [e32_77]
      simp only [e32_99, Option.getD_some, Option.bind_some, Option.toList_some, Option.toList_none, List.cons_append, List.nil_append, and_self, and_true, true_and, false_and, and_false, ite_self, not_true_eq_false, not_false_eq_true, reduceIte, Nat.reduceEqDiff, ab_I, ab_L, ab_R, ao_I, ao_L, ao_R, gL_sL, gI_sI, gR_sR, gI_sL, gI_sR, gL_sI, gL_sR, gR_sI, gR_sL, r4, nl, g_55, g_57, b0.1, b0.2, Int.toNat_natCast, g55, oneI, ww]
      exact t
    · have ef : fnoP B i = fnoP B (i - 1) := fno_n (Or.inl bi)
      rw [if_neg bi] at g55
      rw [ef] at t
      rw [e32_77]
      simp only [e32_99, Option.getD_some, Option.bind_some, Option.toList_some, Option.toList_none, List.cons_append, List.nil_append, and_self, and_true, true_and, false_and, and_false, ite_self, not_true_eq_false, not_false_eq_true, reduceIte, Nat.reduceEqDiff, ab_I, ab_L, ab_R, ao_I, ao_L, ao_R, gL_sL, gI_sI, gR_sR, gI_sL, gI_sR, gL_sI, gL_sR, gR_sI, gR_sL, r4, nl, g_55, g_57, b0.1, b0.2, Int.toNat_natCast, g55, ww]
      exact t
theorem T32 (hc : 7 ≤ cc ∧ cc ≤ 14) (hn : n ≤ 200) (hp : ∀ j, p j = gL σ cc j) (g4 : gI σ 39 4 = (n : Int)) (mS : mkC σ 54 S) (m5 : ∀ j, j < 200 → gI σ 55 j = 0) : okc (MM 32 [mR (some 39), mR (some cc)] σ) none (fun τ => cpq τ σ ∧ (∀ q s, q = 54 ∨ q = 56 ∨ q = 51 → gI τ q s = gI σ q s) ∧ mkC τ 55 (bgnP p n S) ∧ ∀ j, j < n → gI τ 57 j = ((fnoP (bgnP p n S) j : Nat) : Int)) := by
  obtain ⟨τ1, h1, q1, g1, mk1⟩ := L32a hc hn hp g4 mS n 0 none (sI σ 55 0 1) (by omega) (cpq_i (by omega)) (fun q s h => by rw [gI_sI, if_neg (by omega)]) (fun j hj => by
    rw [gI_sI]
    by_cases z : j = 0
    · rw [if_pos ⟨rfl, z⟩, z]
      rfl
    · rw [if_neg (fun y => z y.2), m5 j hj]
      have : bgM p n S 0 j = false := by
        unfold bgM
        rw [decide_eq_false z]
        simp
      rw [this]
      rfl)
  have mk1' : mkC τ1 55 (bgnP p n S) := mk1
  have r4 : gI τ1 39 4 = (n : Int) := (q1.1 _ _ (by omega) (by omega)).trans g4
  have t2 := L32b (x1 := some cc) hn r4 mk1' bg_0 n 0 τ1 (by omega) (cpq_r _) (fun _ _ _ => rfl) (fun j hj => absurd hj (Nat.not_lt_zero _))
  obtain ⟨τ, t, q2, g2, k2⟩ := h1 _ _ t2
  refine okc_o (τ := τ) ?_ ⟨cpq_t q2 q1, fun q s h => (g2 q s (by omega)).trans (g1 q s (by omega)), fun j hj => (g2 55 j (by decide)).trans (mk1' j hj), k2⟩
  rw [← t]
  simp only [M32, e32_0, Option.getD_some, Option.bind_some, Option.toList_some, Option.toList_none, List.cons_append, List.nil_append, and_self, and_true, true_and, false_and, and_false, ite_self, not_true_eq_false, not_false_eq_true, reduceIte, Nat.reduceEqDiff, ab_I, ab_L, ab_R, ao_I, ao_L, ao_R, gL_sL, gI_sI, gR_sR, gI_sL, gI_sR, gL_sI, gL_sR, gR_sI, gR_sL, g_55, Int.reduceLE, Int.reduceLT, show (0 : Int).toNat = 0 from rfl, show (1 : Int) % 2 = 1 from rfl]
  rfl
end CPL2
