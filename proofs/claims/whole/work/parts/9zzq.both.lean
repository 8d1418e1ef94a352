/-! ===== runs of reference and class: the same words ===== -/
section BOTH
variable {E : EV} {w w2 w3 : B64} {c : TC WR} {B : WB WR} {H : WH WR}
theorem stpT_w (h : ¬ fL w = 0) : stpT B H E c w w2 = stpT B H E c w w3 := by
  unfold stpT
  rw [if_neg h, if_neg h]
theorem b1_q {i : Int} (h : 0 ≤ i) : 0 ≤ i + 1 := by omega
theorem b2_q {i m : Int} (h : i + 2 < m) : i + 1 < m := by omega
/-- a run looks at words within the program alone -/
theorem rnT_pr {pr pr' : Int → Int → B64} {good : Int → Prop} {I : WR → Prop} {tk : WR → WR} {sl : WR → Int} (hst : ∀ (G : Int → Prop) (p : Int → B64) (c c' : TC WR), okP G p → gdT G c → stpT B H E c (p (cP c)) (p (cP c + 1)) = some (0, c') → gdT G c') (hg : ∀ s, good s → ∃ (G : Int → Prop) (m : Int), okP G (pr s) ∧ G 0 ∧ (∀ i, G i → 0 ≤ i ∧ i < m) ∧ ∀ i, 0 ≤ i → i < m → pr' s i = pr s i) (hI : ∀ v, I v → I (tk v)) (hs : ∀ (c : TC WR) (w w2 : B64) (k : Nat) (c' : TC WR), stpT B H E c w w2 = some (k, c') → I (cW c) → I (cW c') ∧ (2 ≤ k → good (sl (cW c')))) : ∀ (n : Nat) (s : Int) (c : TC WR) (G : Int → Prop) (m : Int), okP G (pr s) → gdT G c → (∀ i, G i → 0 ≤ i ∧ i < m) → (∀ i, 0 ≤ i → i < m → pr' s i = pr s i) → I (cW c) → rnT B H E tk pr' sl n s c = rnT B H E tk pr sl n s c := by
  intro n
  induction n with
  | zero => intro s c G m _ _ _ _ _; rfl
  | succ n ih =>
    intro s c G m okp hgd hr he hc
    obtain ⟨o1, o2, o3, o4⟩ := okp _ hgd.2.1
    have gp := hr _ hgd.2.1
    have e1 : pr' s (cP c) = pr s (cP c) := he _ gp.1 gp.2
    have es : stp1 B H E (pr' s) tk c = stp1 B H E (pr s) tk c := by
      show stpT B H E (cP c, cN c, cR c, cS c, cB c, tk (cW c)) (pr' s (cP c)) (pr' s (cP c + 1)) = stpT B H E (cP c, cN c, cR c, cS c, cB c, tk (cW c)) (pr s (cP c)) (pr s (cP c + 1))
      rw [e1]
      by_cases l0 : fL (pr s (cP c)) = 0
      · have g2 := hr _ (o2 l0)
        rw [he (cP c + 1) (b1_q gp.1) (b2_q g2.2)]
      · exact stpT_w l0
    unfold rnT
    rw [es]
    cases est : stp1 B H E (pr s) tk c with
    | none =>
      show (none : Option (TC WR)) = none
      rfl
    | some q =>
      obtain ⟨k, c'⟩ := q
      have est' : stpT B H E (cP c, cN c, cR c, cS c, cB c, tk (cW c)) (pr s (cP c)) (pr s (cP c + 1)) = some (k, c') := est
      obtain ⟨i2, gs⟩ := hs _ _ _ _ _ est' (hI _ hc)
      cases k with
      | zero =>
        have gd1 : gdT G (cP c, cN c, cR c, cS c, cB c, tk (cW c)) := hgd
        have := ih s c' G m okp (hst G (pr s) _ _ okp gd1 est') hr he i2
        exact this
      | succ k =>
        cases k with
        | zero =>
          show (some c' : Option (TC WR)) = some c'
          rfl
        | succ k =>
          obtain ⟨G', m', a1, a2, a3, a4⟩ := hg _ (gs (Nat.le_add_left 2 k))
          have g0 : gdT G' (st0 (cW c')) := ⟨Nat.le_refl 1, a2, fun f f1 f2 => absurd f2 (Nat.not_lt.mpr f1)⟩
          have := ih (sl (cW c')) (st0 (cW c')) G' m' a1 g0 a3 a4 i2
          exact this
end BOTH
