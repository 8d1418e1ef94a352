/-! ===== the reference's judge, from its beginning ===== -/
/-- what the judge may touch, with the slot it judges -/
abbrev jwT (x k s : Nat) : Prop := (118 ≤ k ∧ k ≤ 143) ∨ (k = 85 ∧ s = x) ∨ (k = 80 ∧ (s = 72 ∨ s = 78 ∨ (82 ≤ s ∧ s ≤ 90) ∨ s = 95 ∨ (101 ≤ s ∧ s ≤ 103)))
def jdq (x : Nat) (τ σ : MS) : Prop := (∀ k s, ¬ jwT x k s → gI τ k s = gI σ k s) ∧ (∀ k s, ¬ ((112 ≤ k ∧ k ≤ 117) ∨ k = 140) → gL τ k s = gL σ k s) ∧ τ.2.2 = σ.2.2
/-- what is there when a program has been judged -/
def jdE (x : Nat) (σ τ : MS) (r : JD) : Prop := jdq x τ σ ∧ (gI τ 138 0 = r.2.1 ∧ gI τ 138 1 = r.2.2.1.1 ∧ gI τ 138 2 = r.2.2.1.2.1 ∧ gI τ 138 3 = r.2.2.1.2.2.1 ∧ gI τ 138 4 = r.2.2.1.2.2.2.1 ∧ gI τ 138 5 = r.2.2.1.2.2.2.2) ∧ KN τ r.2.2.2 ∧ gI τ 85 x = (if r.1 = 0 then 1 else 0) ∧ gI τ 80 95 = 1 ∧ gI τ 80 86 = (x : Int) ∧ gI τ 80 90 = r.1
section JUD2
variable {σ τ ρ : MS} {x n : Nat} {E : EV} {r : JD}
theorem jdq_r : jdq x σ σ := ⟨fun _ _ _ => rfl, fun _ _ _ => rfl, rfl⟩
theorem jdq_t {a b c : MS} (h1 : jdq x a b) (h2 : jdq x b c) : jdq x a c := ⟨fun k s p => (h1.1 k s p).trans (h2.1 k s p), fun k s p => (h1.2.1 k s p).trans (h2.2.1 k s p), h1.2.2.trans h2.2.2⟩
theorem jdq_sI {k s : Nat} {v : Int} (h : jwT x k s) : jdq x (sI σ k s v) σ := ⟨fun k' s' p => by rw [gI_sI, if_neg (fun q => by rw [q.1, q.2] at p; exact p h)], fun _ _ _ => rfl, rfl⟩
theorem jdq_wq (h : wq τ σ) : jdq x τ σ := ⟨fun k s p => h.1 k s (by omega), fun k s p => h.2.1 k s p, h.2.2⟩
theorem jdq_fq (h : fq τ σ) : jdq x τ σ := ⟨fun k s p => h.1 k s (by omega) (by omega), fun k s p => h.2.1 k s, h.2.2⟩
theorem jdq_pq (h : pq τ σ) : jdq x τ σ := ⟨fun k s p => h.1 k s (by omega) (by omega), fun k s p => h.2.1 k s, h.2.2⟩
theorem jdq_ci {k n : Nat} (h : 118 ≤ k ∧ k ≤ 143) : jdq x (clI σ k n) σ := ⟨fun k' s p => ci_I n (by omega), fun k s p => ci_L n, ci_r n⟩
theorem L470e (hx : x < 8) {x2 : Int} {f : Int} (h90 : gI τ 80 90 = f) : okc (RR (lkB tb470) (B470_114, [some (mR (some 80)), some (mI (x : Int)), some (mI x2)], [], τ)) (some (mI f)) (fun ρ => ρ = sI (sI (sI τ 138 0 (if f = 0 then -1 else gI τ 80 87)) 138 3 (if f = 0 then gI τ 131 0 else 0)) 85 x (if f = 0 then 1 else 0)) := by
  have b0 : 0 ≤ (x : Int) ∧ (x : Int) < 8 := by omega
  by_cases z : f = 0
  · rw [if_pos z, if_pos z, if_pos z]
    rw [z] at h90 ⊢
    have e : RR (lkB tb470) (B470_114, [some (mR (some 80)), some (mI (x : Int)), some (mI x2)], [], τ) = some (some (mI 0), sI (sI (sI τ 138 0 (-1)) 138 3 (gI τ 131 0)) 85 x 1) := by
      simp only [e470_114, e470_134, e470_157, e470_175, Option.getD_some, Option.bind_some, Option.toList_some, Option.toList_none, List.cons_append, List.nil_append, and_self, and_true, true_and, false_and, and_false, ite_self, not_true_eq_false, not_false_eq_true, reduceIte, Nat.reduceEqDiff, ab_I, ab_L, ab_R, ao_I, ao_L, ao_R, gL_sL, gI_sI, gR_sR, gI_sL, gI_sR, gL_sI, gL_sR, gR_sI, gR_sL, h90, g_138, g_131, g_85, Int.reduceLT, Int.reduceLE, show (0 : Int).toNat = 0 from rfl, show (3 : Int).toNat = 3 from rfl, b0.1, b0.2, Int.toNat_natCast, show (1 : Int) % 2 = 1 from rfl]
    exact okc_o e rfl
  · rw [if_neg z, if_neg z, if_neg z]
    have z' : ¬ gI τ 80 90 = 0 := by rw [h90]; exact z
    have e : RR (lkB tb470) (B470_114, [some (mR (some 80)), some (mI (x : Int)), some (mI x2)], [], τ) = some (some (mI f), sI (sI (sI τ 138 0 (gI τ 80 87)) 138 3 0) 85 x 0) := by
      simp only [e470_114, e470_134, e470_157, e470_175, Option.getD_some, Option.bind_some, Option.toList_some, Option.toList_none, List.cons_append, List.nil_append, and_self, and_true, true_and, false_and, and_false, ite_self, not_true_eq_false, not_false_eq_true, reduceIte, Nat.reduceEqDiff, ab_I, ab_L, ab_R, ao_I, ao_L, ao_R, gL_sL, gI_sI, gR_sR, gI_sL, gI_sR, gL_sI, gL_sR, gR_sI, gR_sL, z', g_138, g_85, Int.reduceLT, Int.reduceLE, show (0 : Int).toNat = 0 from rfl, show (3 : Int).toNat = 3 from rfl, b0.1, b0.2, Int.toNat_natCast, show (0 : Int) % 2 = 0 from rfl]
      rw [h90]
    exact okc_o e rfl
theorem L470c {x1 : Int} : ∃ ρ, RR (lkB tb470) (B470_35, [some (mR (some 80)), some (mI x1), none], [], σ) = (MM 475 [mR (some 80)] ρ).bind (fun q => RR (lkB tb470) (B470_92, [some (mR (some 80)), some (mI x1), some (mI 200)], q.1.toList ++ [], q.2)) ∧ ρ = sI (sI (clI (clI σ 138 6) 139 200) 80 90 0) 80 87 (-1) := by
  refine ⟨_, ?_, rfl⟩
  have k1 : ∀ m : Nat, m ≤ 6 → RR (lkB tb470) (B470_37, [some (mR (some 80)), some (mI x1), some (mI ((6 - m : Nat) : Int))], [], clI σ 138 (6 - m)) = RR (lkB tb470) (B470_58, [some (mR (some 80)), some (mI x1), some (mI 0)], [], clI σ 138 6) := by
    intro m
    induction m with
    | zero =>
      intro _
      rw [e470_37, if_pos (by decide)]
    | succ m ih =>
      intro hm
      have ih := ih (by omega)
      obtain ⟨r, hr⟩ : ∃ r, r = 6 - (m + 1) := ⟨_, rfl⟩
      have e1 : 6 - m = r + 1 := by omega
      rw [e1] at ih
      rw [← hr]
      have nl : ¬ 6 ≤ (r : Int) := by omega
      have b0 : 0 ≤ (r : Int) ∧ (r : Int) < 6 := by omega
      have r6 : r < 100000 := by omega
      have e2 : clI σ 138 (r + 1) = sI (clI σ 138 r) 138 r 0 := rfl
      rw [e2] at ih
      rw [e470_37]
      simp only [Option.getD_some, Option.bind_some, Option.toList_some, Option.toList_none, List.cons_append, List.nil_append, and_self, and_true, true_and, false_and, and_false, ite_self, not_true_eq_false, not_false_eq_true, reduceIte, Nat.reduceEqDiff, ab_I, ab_L, ab_R, ao_I, ao_L, ao_R, gL_sL, gI_sI, gR_sR, gI_sL, gI_sR, gL_sI, gL_sR, gR_sI, gR_sL, nl, g_138, b0.1, b0.2, Int.toNat_natCast, w32_s r6]
      exact ih
  have k2 : ∀ m : Nat, m ≤ 200 → RR (lkB tb470) (B470_58, [some (mR (some 80)), some (mI x1), some (mI ((200 - m : Nat) : Int))], [], clI (clI σ 138 6) 139 (200 - m)) = (MM 475 [mR (some 80)] (sI (sI (clI (clI σ 138 6) 139 200) 80 90 0) 80 87 (-1))).bind (fun q => RR (lkB tb470) (B470_92, [some (mR (some 80)), some (mI x1), some (mI 200)], q.1.toList ++ [], q.2)) := by
    intro m
    induction m with
    | zero =>
      intro _
      rw [e470_58, if_pos (by decide)]
      rfl
    | succ m ih =>
      intro hm
      have ih := ih (by omega)
      obtain ⟨r, hr⟩ : ∃ r, r = 200 - (m + 1) := ⟨_, rfl⟩
      have e1 : 200 - m = r + 1 := by omega
      rw [e1] at ih
      rw [← hr]
      have nl : ¬ 200 ≤ (r : Int) := by omega
      have b0 : 0 ≤ (r : Int) ∧ (r : Int) < 200 := by omega
      have r6 : r < 100000 := by omega
      have e2 : clI (clI σ 138 6) 139 (r + 1) = sI (clI (clI σ 138 6) 139 r) 139 r 0 := rfl
      rw [e2] at ih
      rw [e470_58]
      simp only [Option.getD_some, Option.bind_some, Option.toList_some, Option.toList_none, List.cons_append, List.nil_append, and_self, and_true, true_and, false_and, and_false, ite_self, not_true_eq_false, not_false_eq_true, reduceIte, Nat.reduceEqDiff, ab_I, ab_L, ab_R, ao_I, ao_L, ao_R, gL_sL, gI_sI, gR_sR, gI_sL, gI_sR, gL_sI, gL_sR, gR_sI, gR_sL, nl, g_139, b0.1, b0.2, Int.toNat_natCast, show (0 : Int) % 2 = 0 from rfl, w32_s r6]
      exact ih
  have a1 := k1 6 (Nat.le_refl _)
  have a2 := k2 200 (Nat.le_refl _)
  rw [Nat.sub_self] at a1 a2
  rw [e470_35]
  exact a1.trans a2
theorem T331 (hx : x < 8) : MM 331 [mI (x : Int)] σ = some (some (mI 1), σ) := by
  have n1 : ¬ (x : Int) < 0 := by omega
  have n2 : ¬ 8 ≤ (x : Int) := by omega
  simp only [M331, e331_0, Option.getD_some, Option.bind_some, Option.toList_some, Option.toList_none, List.cons_append, List.nil_append, and_self, and_true, true_and, false_and, and_false, ite_self, not_true_eq_false, not_false_eq_true, reduceIte, Nat.reduceEqDiff, ab_I, ab_L, ab_R, ao_I, ao_L, ao_R, gL_sL, gI_sI, gR_sR, gI_sL, gI_sR, gL_sI, gL_sR, gR_sI, gR_sL, n1, n2]
theorem mee_N {w : WK} : yNn w ≤ yNn (meeK w).2.2 := by
  unfold meeK
  split
  · split
    · exact Nat.le_refl _
    · exact Nat.le_refl _
  · split
    · exact Nat.le_refl _
    · exact Nat.le_succ _
theorem ins_N {p : Int → B64} {w : WK} : yNn w ≤ yNn (insK E p w).2.2 := by
  by_cases c : yG w = 4000
  · rw [ins_g c]
    exact Nat.le_refl _
  · by_cases zf : (stpJ E (yS w) (yA w) (p (yA w)) (p (yA w + 1)) (yT w)).1 = 0
    · generalize er : stpJ E (yS w) (yA w) (p (yA w)) (p (yA w + 1)) (yT w) = r at zf
      obtain ⟨rf, ra, rb, rt⟩ := r
      have zf : rf = 0 := zf
      subst zf
      rcases ra with _ | ⟨n1, S1⟩
      · rw [ins_e c er]
        exact Nat.le_refl _
      · rcases rb with _ | ⟨g, S2⟩
        · rw [ins_1 c er]
          exact Nat.le_refl _
        · by_cases m60 : yM w = 60
          · rw [ins_6 c m60 er]
            exact Nat.le_refl _
          · rw [ins_2 c m60 er]
            exact Nat.le_refl _
    · rw [ins_f c zf]
      exact Nat.le_refl _
theorem itr_N {p : Int → B64} {J : Int → Bool} {first : Bool} {w : WK} : yNn w ≤ yNn (itrK E p J first w).2.2 := by
  have ei : itrK E p J first w = (let m := if J (yA w) = true ∧ first = false then meeK w else (0, false, w)
      if ¬ m.1 = 0 then (m.1, false, m.2.2)
      else
        let s := if m.2.1 = true then (0, true, m.2.2) else insK E p m.2.2
        if ¬ s.1 = 0 then (s.1, false, s.2.2)
        else if s.2.1 = true then (if yM s.2.2 = 0 then (0, true, s.2.2) else (0, false, popK s.2.2))
        else (0, false, s.2.2)) := rfl
  have hm : yNn w ≤ yNn (if J (yA w) = true ∧ first = false then meeK w else (0, false, w)).2.2 := by
    split
    · exact mee_N
    · exact Nat.le_refl _
  rw [ei]
  generalize (if J (yA w) = true ∧ first = false then meeK w else (0, false, w)) = m at hm
  simp only
  have hs : yNn w ≤ yNn (if m.2.1 = true then (0, true, m.2.2) else insK E p m.2.2).2.2 := by
    split
    · exact hm
    · exact Nat.le_trans hm ins_N
  generalize (if m.2.1 = true then (0, true, m.2.2) else insK E p m.2.2) = s at hs
  split
  · exact hm
  · split
    · exact hs
    · split
      · split
        · exact hs
        · exact hs
      · exact hs
theorem wlk_N {p : Int → B64} {J : Int → Bool} {w' : WK} {f : Int} : ∀ (n : Nat) (first : Bool) (w : WK), wlkK E p J n first w = some (f, w') → yNn w ≤ yNn w' := by
  intro n
  induction n with
  | zero => intro first w h; cases h
  | succ n ih =>
    intro first w h
    have a := itr_N (E := E) (p := p) (J := J) (first := first) (w := w)
    unfold wlkK at h
    split at h
    · cases h
      exact a
    · split at h
      · cases h
        exact a
      · exact Nat.le_trans a (ih _ _ h)
set_option maxHeartbeats 1000000 in
theorem T470 (hx : x < 8) (h84 : 0 ≤ gI σ 84 x ∧ gI σ 84 x ≤ 200) (hne : ¬ gI σ 84 x = 0) (hE : okE E) (hEO : EO σ E) (hr : judR E (fun j => gL σ 83 (200 * x + j)) (gI σ 84 x).toNat r) : okc (MM 470 [mR (some 80), mI (x : Int)] σ) (some (mI r.1)) (fun τ => jdE x σ τ r) := by
  have b0 : 0 ≤ (x : Int) ∧ (x : Int) < 8 := by omega
  have t1 := T331 (σ := σ) hx
  have s35 : MM 470 [mR (some 80), mI (x : Int)] σ = RR (lkB tb470) (B470_35, [some (mR (some 80)), some (mI (x : Int)), none], [], sI (sI (sI σ 80 95 1) 85 x 0) 80 86 (x : Int)) := by
    simp only [M470, e470_0, e470_4, Option.getD_some, Option.bind_some, Option.toList_some, Option.toList_none, List.cons_append, List.nil_append, and_self, and_true, true_and, false_and, and_false, ite_self, not_true_eq_false, not_false_eq_true, reduceIte, Nat.reduceEqDiff, ab_I, ab_L, ab_R, ao_I, ao_L, ao_R, gL_sL, gI_sI, gR_sR, gI_sL, gI_sR, gL_sI, gL_sR, gR_sI, gR_sL, t1, oneI, g_84, g_85, b0.1, b0.2, Int.toNat_natCast, hne, show (0 : Int) % 2 = 0 from rfl]
  obtain ⟨σ2, e2, h2⟩ := L470c (σ := sI (sI (sI σ 80 95 1) 85 x 0) 80 86 (x : Int)) (x1 := (x : Int))
  rw [s35, e2]
  clear s35 e2 t1
  -- what stands there
  have q1 : jdq x σ2 σ := by
    rw [h2]
    exact jdq_t (jdq_sI (by omega)) (jdq_t (jdq_sI (by omega)) (jdq_t (jdq_ci (by omega)) (jdq_t (jdq_ci (by omega)) (jdq_t (jdq_sI (by omega)) (jdq_t (jdq_sI (Or.inr (Or.inl ⟨rfl, rfl⟩))) (jdq_sI (by omega)))))))
  have v90 : gI σ2 80 90 = 0 := by rw [h2, gI_sI, if_neg (by omega), gI_sI, if_pos ⟨rfl, rfl⟩]
  have v86 : gI σ2 80 86 = (x : Int) := by rw [h2, gI_sI, if_neg (by omega), gI_sI, if_neg (by omega), ci_I 200 (by omega), ci_I 6 (by omega), gI_sI, if_pos ⟨rfl, rfl⟩]
  have v95 : gI σ2 80 95 = 1 := by rw [h2, gI_sI, if_neg (by omega), gI_sI, if_neg (by omega), ci_I 200 (by omega), ci_I 6 (by omega), gI_sI, if_neg (by omega), gI_sI, if_neg (by omega), gI_sI, if_pos ⟨rfl, rfl⟩]
  have v138 : ∀ j, j < 6 → gI σ2 138 j = 0 := fun j hj => by rw [h2, gI_sI, if_neg (by omega), gI_sI, if_neg (by omega), ci_I 200 (by omega), ci_v 6 hj]
  have v139 : ∀ j, j < 200 → gI σ2 139 j = 0 := fun j hj => by rw [h2, gI_sI, if_neg (by omega), gI_sI, if_neg (by omega), ci_v 200 hj]
  clear h2
  have js : jsA σ2 = (x : Int) := v86
  have jsn : (jsA σ2).toNat = x := by rw [js]; omega
  have g84 : gI σ2 84 x = gI σ 84 x := q1.1 _ _ (by omega)
  have sl : okSl σ2 := by
    unfold okSl
    rw [jsn, js, g84]
    exact ⟨b0, h84⟩
  have sz : szA σ2 = (gI σ 84 x).toNat := by
    unfold szA
    rw [jsn, g84]
  have wd : wdA σ2 = fun j => gL σ 83 (200 * x + j) := by
    funext j
    unfold wdA
    rw [jsn]
    exact q1.2.1 _ _ (by omega)
  rw [← sz, ← wd] at hr
  have EO2 : EO σ2 E := fun m hm => by
    rw [q1.1 _ _ (by omega), q1.1 _ _ (by omega), q1.1 _ _ (by omega), q1.1 _ _ (by omega)]
    exact hEO m hm
  have n0 : 0 < szA σ2 := by rw [sz]; omega
  -- the end, whatever has been found
  have fin : ∀ (τ : MS) (f : Int) (x2 : Int), gI τ 80 90 = f → r.1 = f → jdq x τ σ → gI τ 80 95 = 1 → gI τ 80 86 = (x : Int) → (if f = 0 then -1 else gI τ 80 87) = r.2.1 → gI τ 138 1 = r.2.2.1.1 → gI τ 138 2 = r.2.2.1.2.1 → (if f = 0 then gI τ 131 0 else 0) = r.2.2.1.2.2.1 → gI τ 138 4 = r.2.2.1.2.2.2.1 → gI τ 138 5 = r.2.2.1.2.2.2.2 → KN τ r.2.2.2 → okc (RR (lkB tb470) (B470_114, [some (mR (some 80)), some (mI (x : Int)), some (mI x2)], [], τ)) (some (mI r.1)) (fun τ => jdE x σ τ r) := fun τ f x2 a1 a2 a3 a4 a5 a6 a7 a8 a9 a10 a11 a12 => by
    rw [a2]
    refine okc_m (L470e hx a1) fun ρ z => ?_
    subst z
    refine ⟨jdq_t (jdq_sI (Or.inr (Or.inl ⟨rfl, rfl⟩))) (jdq_t (jdq_sI (by omega)) (jdq_t (jdq_sI (by omega)) a3)), ⟨?_, ?_, ?_, ?_, ?_, ?_⟩, KN_fr (fun k s q => ?_) (fun s => rfl) a12, ?_, ?_, ?_, ?_⟩
    · rw [gI_sI, if_neg (by omega), gI_sI, if_neg (by omega), gI_sI, if_pos ⟨rfl, rfl⟩]
      exact a6
    · rw [gI_sI, if_neg (by omega), gI_sI, if_neg (by omega), gI_sI, if_neg (by omega)]
      exact a7
    · rw [gI_sI, if_neg (by omega), gI_sI, if_neg (by omega), gI_sI, if_neg (by omega)]
      exact a8
    · rw [gI_sI, if_neg (by omega), gI_sI, if_pos ⟨rfl, rfl⟩]
      exact a9
    · rw [gI_sI, if_neg (by omega), gI_sI, if_neg (by omega), gI_sI, if_neg (by omega)]
      exact a10
    · rw [gI_sI, if_neg (by omega), gI_sI, if_neg (by omega), gI_sI, if_neg (by omega)]
      exact a11
    · rw [gI_sI, if_neg (by omega), gI_sI, if_neg (by omega), gI_sI, if_neg (by omega)]
    · rw [gI_sI, if_pos ⟨rfl, rfl⟩, a2]
    · rw [gI_sI, if_neg (by omega), gI_sI, if_neg (by omega), gI_sI, if_neg (by omega)]
      exact a4
    · rw [gI_sI, if_neg (by omega), gI_sI, if_neg (by omega), gI_sI, if_neg (by omega)]
      exact a5
    · rw [gI_sI, if_neg (by omega), gI_sI, if_neg (by omega), gI_sI, if_neg (by omega), a1, a2]
  refine okc_b (T475 sl v90) fun τ1 z => ?_
  obtain ⟨f1, f2, f3⟩ := z
  simp only [Option.toList_none, List.nil_append]
  have j1 : jdq x τ1 σ := jdq_t (jdq_fq f1) q1
  obtain ⟨sl1, wd1, sz1, js1⟩ := fq_sl f1 sl
  rcases hr with ⟨i, S, hf, rfl⟩ | ⟨S, hf, hr⟩
  · -- FORM
    rw [hf] at f3
    obtain ⟨y1, y2⟩ := f3 i rfl
    have n90 : ¬ gI τ1 80 90 = 0 := by rw [y1]; decide
    rw [e470_92, if_pos n90, e470_103, if_pos n90]
    refine fin τ1 1 _ y1 rfl j1 ((f1.1 _ _ (by omega) (by omega)).trans v95) ((f1.1 _ _ (by omega) (by omega)).trans v86) ?_ ((f1.1 _ _ (by omega) (by omega)).trans (v138 _ (by decide))) ((f1.1 _ _ (by omega) (by omega)).trans (v138 _ (by decide))) (if_neg (by decide)) ((f1.1 _ _ (by omega) (by omega)).trans (v138 _ (by decide))) ((f1.1 _ _ (by omega) (by omega)).trans (v138 _ (by decide))) (fun i hi => ⟨fun S e => (by cases e), fun _ => (f1.1 _ _ (by omega) (by omega)).trans (v139 i hi)⟩)
    rw [if_neg (by decide)]
    exact y2
  · rw [hf] at f2
    obtain ⟨y1, y2, y3⟩ := f2 rfl
    rw [e470_92, if_neg (not_not_intro y1)]
    refine okc_b (T480 sl1 y1 y3) fun τ2 z => ?_
    rw [sz1, show wdA τ1 = wdA σ2 from funext wd1] at z
    obtain ⟨p1, p2, p3⟩ := z
    simp only [Option.toList_none, List.nil_append]
    have j2 : jdq x τ2 σ := jdq_t (jdq_pq p1) j1
    obtain ⟨sl2, wd2, sz2, js2⟩ := pq_sl p1 sl1
    have g : ∀ k s, ¬ (135 ≤ k ∧ k ≤ 137) → ¬ (k = 80 ∧ (s = 87 ∨ s = 90)) → gI τ2 k s = gI σ2 k s := fun k s a b => (p1.1 _ _ (by omega) (by omega)).trans (f1.1 _ _ (by omega) (by omega))
    rcases hr with ⟨i, hc, rfl⟩ | ⟨hc, f, e, w, hw, rfl⟩
    · -- PLACE
      obtain ⟨u1, u2⟩ := p3 i hc
      have n90 : ¬ gI τ2 80 90 = 0 := by rw [u1]; decide
      rw [e470_103, if_pos n90]
      refine fin τ2 2 _ u1 rfl j2 ((g _ _ (by omega) (by omega)).trans v95) ((g _ _ (by omega) (by omega)).trans v86) ?_ ((g _ _ (by omega) (by omega)).trans (v138 _ (by decide))) ((g _ _ (by omega) (by omega)).trans (v138 _ (by decide))) (if_neg (by decide)) ((g _ _ (by omega) (by omega)).trans (v138 _ (by decide))) ((g _ _ (by omega) (by omega)).trans (v138 _ (by decide))) (fun i hi => ⟨fun S e => (by cases e), fun _ => (g _ _ (by omega) (by omega)).trans (v139 i hi)⟩)
      rw [if_neg (by decide)]
      exact u2
    · -- THE WALK
      obtain ⟨u1, u2, u3⟩ := p2 hc
      have hp := okP_of (p := wdA σ2) (n := szA σ2) hf (fun i hi hS => plc_n (szA σ2 + 1) 0 (by omega) hc i (Nat.zero_le _) hi hS)
      have n200 := (sl_sz sl).2.1
      have st : stS τ2 E (fun i => wdA σ2 i.toNat) (fun j => joiP (wdA σ2) (szA σ2) S j) := by
        refine ⟨fun m hm => ?_, sl2, fun i hi => ?_, fun i hi => ?_⟩
        · rw [g _ _ (by omega) (by omega), g _ _ (by omega) (by omega), g _ _ (by omega) (by omega), g _ _ (by omega) (by omega)]
          exact EO2 m hm
        · show wdA σ2 (i : Int).toNat = wdA τ2 i
          rw [Int.toNat_natCast, wd2, wd1]
        · rw [u3 i (by omega)]
          show joM (wdA σ2) S (szA σ2) i = true ↔ _
          split
          · rename_i q
            exact ⟨fun _ => by decide, fun _ => q⟩
          · rename_i q
            exact ⟨fun z => absurd z q, fun z => absurd rfl z⟩
      have S00 := (frm_s _ _ _ _ hf (by omega)).2.1 n0
      rw [e470_103, if_neg (not_not_intro u1)]
      refine okc_b (T482 hE hp (fun y hy => ⟨hy.1.1, by have := hy.1.2; omega⟩) ⟨⟨Int.le_refl _, by omega⟩, S00⟩ st u1 ⟨(g _ _ (by omega) (by omega)).trans (v138 _ (by decide)), (g _ _ (by omega) (by omega)).trans (v138 _ (by decide))⟩ (fun i hi => (g _ _ (by omega) (by omega)).trans (v139 i hi)) hw) fun τ3 z => ?_
      obtain ⟨w1, w2, ⟨⟨d1, d2, d4, d5⟩, kn⟩, w4, w5⟩ := z
      simp only [Option.toList_none, List.nil_append]
      refine fin τ3 e _ w2 rfl (jdq_t (jdq_wq w1) j2) ((w1.1 _ _ (by omega)).trans ((g _ _ (by omega) (by omega)).trans v95)) ((w1.1 _ _ (by omega)).trans ((g _ _ (by omega) (by omega)).trans v86)) ?_ d1 d2 ?_ d4 d5 kn
      · by_cases z : e = 0
        · rw [if_pos z, if_pos z]
        · rw [if_neg z, if_neg z]
          exact w4 z
      · show (if e = 0 then gI τ3 131 0 else 0) = (if e = 0 then kL (yH w 0) else 0)
        by_cases z : e = 0
        · rw [if_pos z, if_pos z]
          have rk := w5 z
          have kr := rk.2.1
          obtain ⟨c1, c2, c3, c4⟩ := rk.1
          exact (kr 0 (wlk_N _ _ _ hw)).2.2.2.2
        · rw [if_neg z, if_neg z]
end JUD2
