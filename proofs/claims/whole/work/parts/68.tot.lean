/-! ===== each program is judged ===== -/
section TOT
variable {E : EV} {p : Int → B64} {J : Int → Bool} {w w' : WK}
/-- what is left of the walk -/
def leftK (w : WK) : Int := 62 * (4001 - yG w) + (yM w : Int)
theorem pop_l (h : ¬ yM w = 0) : leftK (popK w) = leftK w - 1 := by
  show 62 * (4001 - yG w) + ((yM w - 1 : Nat) : Int) = 62 * (4001 - yG w) + (yM w : Int) - 1
  omega
theorem mee_l (h : (meeK w).1 = 0) : yG (meeK w).2.2 = yG w ∧ yM (meeK w).2.2 = yM w := by
  unfold meeK at h ⊢
  generalize metK w = o at h ⊢
  rcases o with _ | k
  · dsimp only at h ⊢
    by_cases q : yNn w = 250
    · rw [if_pos q]
      exact ⟨rfl, rfl⟩
    · rw [if_neg q]
      exact ⟨rfl, rfl⟩
  · dsimp only at h ⊢
    by_cases q : 0 < kW (yH w k)
    · rw [if_pos q]
      exact ⟨rfl, rfl⟩
    · rw [if_neg q]
      exact ⟨rfl, rfl⟩
theorem ins_l (hG : yG w ≤ 4000) (h : (insK E p w).1 = 0) : yG (insK E p w).2.2 = yG w + 1 ∧ yG w + 1 ≤ 4000 ∧ yM (insK E p w).2.2 ≤ yM w + 1 := by
  by_cases c : yG w = 4000
  · rw [ins_g c] at h
    exact absurd h (show ¬ (12 : Int) = 0 by decide)
  · by_cases zf : (stpJ E (yS w) (yA w) (p (yA w)) (p (yA w + 1)) (yT w)).1 = 0
    · generalize er : stpJ E (yS w) (yA w) (p (yA w)) (p (yA w + 1)) (yT w) = r at zf
      obtain ⟨rf, ra, rb, rt⟩ := r
      have zf : rf = 0 := zf
      subst zf
      rcases ra with _ | ⟨n1, S1⟩
      · rw [ins_e c er]
        exact ⟨rfl, by omega, Nat.le_succ _⟩
      · rcases rb with _ | ⟨g, S2⟩
        · rw [ins_1 c er]
          exact ⟨rfl, by omega, Nat.le_succ _⟩
        · by_cases m60 : yM w = 60
          · rw [ins_6 c m60 er]
            exact ⟨rfl, by omega, Nat.le_succ _⟩
          · rw [ins_2 c m60 er]
            exact ⟨rfl, by omega, Nat.le_refl _⟩
    · rw [ins_f c zf] at h
      exact absurd h zf
theorem itr_l {first : Bool} (hG : yG w ≤ 4000) (h : (itrK E p J first w).1 = 0) (h2 : ¬ (itrK E p J first w).2.1 = true) : yG (itrK E p J first w).2.2 ≤ 4000 ∧ leftK (itrK E p J first w).2.2 < leftK w := by
  have ei : itrK E p J first w = (let m := if J (yA w) = true ∧ first = false then meeK w else (0, false, w)
      if ¬ m.1 = 0 then (m.1, false, m.2.2)
      else
        let s := if m.2.1 = true then (0, true, m.2.2) else insK E p m.2.2
        if ¬ s.1 = 0 then (s.1, false, s.2.2)
        else if s.2.1 = true then (if yM s.2.2 = 0 then (0, true, s.2.2) else (0, false, popK s.2.2))
        else (0, false, s.2.2)) := rfl
  have hm : (if J (yA w) = true ∧ first = false then meeK w else (0, false, w)).1 = 0 → yG (if J (yA w) = true ∧ first = false then meeK w else (0, false, w)).2.2 = yG w ∧ yM (if J (yA w) = true ∧ first = false then meeK w else (0, false, w)).2.2 = yM w := fun z => by
    by_cases c : J (yA w) = true ∧ first = false
    · rw [if_pos c] at z ⊢
      exact mee_l z
    · rw [if_neg c]
      exact ⟨rfl, rfl⟩
  rw [ei] at h h2 ⊢
  generalize (if J (yA w) = true ∧ first = false then meeK w else (0, false, w)) = m at *
  simp only at h h2 ⊢
  by_cases m1 : m.1 = 0
  · obtain ⟨u1, u2⟩ := hm m1
    rw [if_neg (not_not_intro m1)] at h h2 ⊢
    by_cases m2 : m.2.1 = true
    · rw [if_pos m2, if_neg (not_not_intro rfl), if_pos rfl] at h h2 ⊢
      by_cases m0 : yM m.2.2 = 0
      · rw [if_pos m0] at h2
        exact absurd rfl h2
      · rw [if_neg m0]
        refine ⟨?_, ?_⟩
        · show yG m.2.2 ≤ 4000
          omega
        · show leftK (popK m.2.2) < leftK w
          rw [pop_l m0]
          unfold leftK
          omega
    · rw [if_neg m2] at h h2 ⊢
      by_cases i1 : (insK E p m.2.2).1 = 0
      · obtain ⟨v1, v2, v3⟩ := ins_l (by omega) i1
        rw [if_neg (not_not_intro i1)] at h h2 ⊢
        by_cases i2 : (insK E p m.2.2).2.1 = true
        · rw [if_pos i2] at h h2 ⊢
          by_cases m0 : yM (insK E p m.2.2).2.2 = 0
          · rw [if_pos m0] at h2
            exact absurd rfl h2
          · rw [if_neg m0]
            refine ⟨?_, ?_⟩
            · show yG (insK E p m.2.2).2.2 ≤ 4000
              omega
            · show leftK (popK (insK E p m.2.2).2.2) < leftK w
              rw [pop_l m0]
              unfold leftK
              omega
        · rw [if_neg i2]
          refine ⟨?_, ?_⟩
          · show yG (insK E p m.2.2).2.2 ≤ 4000
            omega
          · show leftK (insK E p m.2.2).2.2 < leftK w
            unfold leftK
            omega
      · rw [if_pos i1] at h
        exact absurd h i1
  · rw [if_pos m1] at h
    exact absurd h m1
theorem wlk_tot : ∀ (n : Nat) (first : Bool) (w : WK), yG w ≤ 4000 → leftK w < n → ∃ r, wlkK E p J n first w = some r := by
  intro n
  induction n with
  | zero =>
    intro first w h1 h2
    exfalso
    unfold leftK at h2
    omega
  | succ n ih =>
    intro first w h1 h2
    unfold wlkK
    by_cases z : (itrK E p J first w).1 = 0
    · rw [if_neg (not_not_intro z)]
      by_cases o : (itrK E p J first w).2.1 = true
      · rw [if_pos o]
        exact ⟨_, rfl⟩
      · rw [if_neg o]
        obtain ⟨a, b⟩ := itr_l h1 z o
        exact ih false _ a (by omega)
    · rw [if_pos z]
      exact ⟨_, rfl⟩
/-- each program has what is told of it -/
theorem jud_tot (E : EV) (p : Nat → B64) (n : Nat) : ∃ r, judR E p n r := by
  rcases hf : frmP p n (n + 1) 0 (fun _ => false) with ⟨o, S⟩
  rcases o with _ | i
  · rcases hc : plcP p n S (n + 1) 0 with _ | i
    · obtain ⟨⟨e, w⟩, hw⟩ := wlk_tot (E := E) (p := fun i => p i.toNat) (J := fun j => joiP p n S j) 300000 true (begK S0J) (by show (0 : Int) ≤ 4000; decide) (by show 62 * (4001 - (0 : Int)) + ((0 : Nat) : Int) < 300000; decide)
      exact ⟨_, Or.inr ⟨S, hf, Or.inr ⟨hc, 300000, e, w, hw, rfl⟩⟩⟩
    · exact ⟨_, Or.inr ⟨S, hf, Or.inl ⟨i, hc, rfl⟩⟩⟩
  · exact ⟨_, Or.inl ⟨i, S, hf, rfl⟩⟩
end TOT
