/-! ===== lines (pure): what is read goes on ===== -/
section PMO
variable {t : Nat → Int} {T : Nat → TK} {k j M : Nat} {w r m x : Int} {y : B64}
theorem bS_inr {α β : Type} {r : Int ⊕ α} {f : α → Int ⊕ β} {q : β} (h : bS r f = .inr q) : ∃ p, r = .inr p ∧ f p = .inr q := by
  cases r with
  | inl e => cases h
  | inr p => exact ⟨p, rfl, h⟩
theorem ite_or {α : Type} {c : Prop} {d : Decidable c} {A B : Int ⊕ α} {q : α} (h : @ite _ c d A B = .inr q) : (c ∧ A = .inr q) ∨ (¬ c ∧ B = .inr q) := by
  by_cases x : c
  · rw [if_pos x] at h
    exact Or.inl ⟨x, h⟩
  · rw [if_neg x] at h
    exact Or.inr ⟨x, h⟩
theorem mo_num (h : pNum T y k = .inr j) : j = k + 1 := by
  unfold pNum at h
  split at h
  · exact (Sum.inr.inj h).symm
  · cases h
theorem sk_le : k ≤ skS T k := by
  unfold skS
  split <;> omega
theorem skn_le : k ≤ skN t T k := by
  unfold skN
  split <;> omega
theorem mo_cst {q : B64 × Nat} (h : pCst T k = .inr q) : k < q.2 := by
  unfold pCst at h
  obtain ⟨p, h1, h2⟩ := bS_inr h
  have e := mo_num h1
  have f := Sum.inr.inj h2
  have g := sk_le (T := T) (k := k)
  rw [← f]
  show k < p
  omega
theorem mo_rgt {q : Int × Nat} (h : pRgt t T w k = .inr q) : q.2 = k + 1 := by
  unfold pRgt at h
  rcases ite_or h with ⟨_, h⟩ | ⟨_, h⟩
  · cases h
  · rw [← Sum.inr.inj h]
theorem mo_sid {q : (Int × Int × B64) × Nat} (h : pSid t T w k = .inr q) : k < q.2 := by
  unfold pSid at h
  split at h
  · obtain ⟨p, h1, h2⟩ := bS_inr h
    have e := mo_rgt h1
    rw [← Sum.inr.inj h2]
    show k < p.2
    omega
  · obtain ⟨p, h1, h2⟩ := bS_inr h
    have e := mo_cst h1
    rw [← Sum.inr.inj h2]
    exact e
theorem mo_wh {q : (Option Nat × B64) × Nat} (h : pWh t T y k = .inr q) : k < q.2 := by
  unfold pWh at h
  split at h
  · split at h
    · cases h
    · rw [← Sum.inr.inj h]
      exact Nat.lt_succ_self k
  · split at h
    · obtain ⟨p, h1, h2⟩ := bS_inr h
      have e := mo_num h1
      rw [← Sum.inr.inj h2]
      show k < p
      omega
    · cases h
theorem mo_pt2 {z : Int} {q : (Int × Int × B64) × Nat} (h : pPt2 t T z k = .inr q) : k < q.2 := by
  unfold pPt2 at h
  split at h
  · cases h
  · split at h
    · cases h
    · split at h
      · cases h
      · obtain ⟨p, h1, h2⟩ := bS_inr h
        split at h2
        · cases h2
        · obtain ⟨p2, h3, h4⟩ := bS_inr h2
          split at h4
          · cases h4
          · rw [← Sum.inr.inj h4]
            show k < k + 7
            omega
theorem mo_ptr {q : (Int × Int × B64) × Nat} (h : pPtr t T x k = .inr q) : k < q.2 := by
  unfold pPtr at h
  split at h
  · cases h
  · split at h
    · cases h
    · split at h
      · cases h
      · have := mo_pt2 h
        omega
theorem mo_pln {q : SR × Nat} (h : pPln t T r m k = .inr q) : k < q.2 := by
  unfold pPln at h
  split at h
  · cases h
  · split at h
    · split at h
      · cases h
      · rw [← Sum.inr.inj h]
        show k < k + 2
        omega
    · rcases ite_or h with ⟨_, h⟩ | ⟨_, h⟩
      · cases h
      · rw [← Sum.inr.inj h]
        exact Nat.lt_succ_self k
theorem mo_val {q : SR × Nat} (h : pVal t T r k = .inr q) : k < q.2 := by
  unfold pVal at h
  split at h
  · obtain ⟨p, h1, h2⟩ := bS_inr h
    have e := mo_rgt h1
    rw [← Sum.inr.inj h2]
    show k < p.2
    omega
  · split at h
    · exact mo_pln h
    · split at h
      · split at h
        · split at h
          · cases h
          · rw [← Sum.inr.inj h]
            show k < k + 2
            omega
        · have := mo_pln h
          omega
      · split at h
        · split at h
          · cases h
          · split at h
            · cases h
            · obtain ⟨p, h1, h2⟩ := bS_inr h
              have e := mo_rgt h1
              rw [← Sum.inr.inj h2]
              show k < p.2
              omega
        · split at h
          · obtain ⟨p, h1, h2⟩ := bS_inr h
            have e := mo_ptr h1
            rw [← Sum.inr.inj h2]
            exact e
          · split at h
            · obtain ⟨p, h1, h2⟩ := bS_inr h
              have e := mo_num h1
              rw [← Sum.inr.inj h2]
              show k < p
              omega
            · split at h
              · cases h
              · split at h
                · cases h
                · rw [← Sum.inr.inj h]
                  show k < k + 2
                  omega
theorem mo_to {q : SR × Nat} (h : pTo t T k = .inr q) : k < q.2 := by
  unfold pTo at h
  split at h
  · have := mo_val h
    omega
  · split at h
    · cases h
    · obtain ⟨p, h1, h2⟩ := bS_inr h
      have e := mo_sid h1
      have g := skn_le (t := t) (T := T) (k := k + 1)
      rw [← Sum.inr.inj h2]
      show k < p.2
      omega
theorem mo_mem {q : SR × Nat} (h : pMem t T k = .inr q) : k < q.2 := by
  unfold pMem at h
  obtain ⟨p, h1, h2⟩ := bS_inr h
  have e := mo_ptr h1
  split at h2
  · cases h2
  · split at h2
    · obtain ⟨p2, h3, h4⟩ := bS_inr h2
      have e2 := mo_rgt h3
      rw [← Sum.inr.inj h4]
      show k < p2.2
      omega
    · obtain ⟨p2, h3, h4⟩ := bS_inr h2
      have e2 := mo_cst h3
      rw [← Sum.inr.inj h4]
      show k < p2.2
      omega
theorem mo_atm {g : Prop} {d : Decidable g} {q : SR × Nat} (h : pAtm t T g d x k = .inr q) : k < q.2 := by
  unfold pAtm at h
  obtain ⟨p, h1, h2⟩ := bS_inr h
  have e := mo_ptr h1
  split at h2
  · split at h2
    · cases h2
    · obtain ⟨p2, h3, h4⟩ := bS_inr h2
      have e2 := mo_rgt h3
      rw [← Sum.inr.inj h4]
      show k < p2.2
      omega
  · obtain ⟨p2, h3, h4⟩ := bS_inr h2
    have e2 := mo_rgt h3
    rw [← Sum.inr.inj h4]
    show k < p2.2
    omega
theorem mo_if {q : SR × Nat} (h : pIf t T k = .inr q) : k < q.2 := by
  unfold pIf at h
  split at h
  · cases h
  · split at h
    · cases h
    · obtain ⟨p, h1, h2⟩ := bS_inr h
      have e := mo_sid h1
      have g := skn_le (t := t) (T := T) (k := k + 1)
      split at h2
      · cases h2
      · obtain ⟨p2, h3, h4⟩ := bS_inr h2
        have e2 := mo_wh h3
        rw [← Sum.inr.inj h4]
        show k < p2.2
        omega
theorem mo_go {q : SR × Nat} (h : pGo t T k = .inr q) : k < q.2 := by
  unfold pGo at h
  obtain ⟨p, h1, h2⟩ := bS_inr h
  have e := mo_wh h1
  rw [← Sum.inr.inj h2]
  exact e
theorem mo_gol {q : SR × Nat} (h : pGol t T k = .inr q) : k < q.2 := by
  unfold pGol at h
  obtain ⟨p, h1, h2⟩ := bS_inr h
  have e := mo_wh h1
  rw [← Sum.inr.inj h2]
  exact e
theorem mo_cal {q : SR × Nat} (h : pCal t T k = .inr q) : k < q.2 := by
  unfold pCal at h
  split at h
  · obtain ⟨p, h1, h2⟩ := bS_inr h
    have e := mo_num h1
    rw [← Sum.inr.inj h2]
    show k < p
    omega
  · obtain ⟨p, h1, h2⟩ := bS_inr h
    have e := mo_wh h1
    rw [← Sum.inr.inj h2]
    exact e
theorem mo_stm {q : SR × Nat} (h : pStm t T k = .inr q) : k < q.2 := by
  unfold pStm at h
  rcases ite_or h with ⟨_, h⟩ | ⟨_, h⟩
  · exact mo_to h
  · rcases ite_or h with ⟨_, h⟩ | ⟨_, h⟩
    · exact mo_mem h
    · rcases ite_or h with ⟨_, h⟩ | ⟨_, h⟩
      · have := mo_if h; omega
      · rcases ite_or h with ⟨_, h⟩ | ⟨_, h⟩
        · have := mo_go h; omega
        · rcases ite_or h with ⟨_, h⟩ | ⟨_, h⟩
          · have := mo_gol h; omega
          · rcases ite_or h with ⟨_, h⟩ | ⟨_, h⟩
            · have := mo_cal h; omega
            · rcases ite_or h with ⟨_, h⟩ | ⟨_, h⟩
              · rw [← Sum.inr.inj h]
                exact Nat.lt_succ_self k
              · rcases ite_or h with ⟨_, h⟩ | ⟨_, h⟩
                · obtain ⟨p, h1, h2⟩ := bS_inr h
                  have e := mo_num h1
                  rw [← Sum.inr.inj h2]
                  show k < p
                  omega
                · rcases ite_or h with ⟨_, h⟩ | ⟨_, h⟩
                  · exact mo_atm h
                  · rcases ite_or h with ⟨_, h⟩ | ⟨_, h⟩
                    · exact mo_atm h
                    · rcases ite_or h with ⟨_, h⟩ | ⟨_, h⟩
                      · exact mo_atm h
                      · rcases ite_or h with ⟨_, h⟩ | ⟨_, h⟩
                        · exact mo_atm h
                        · cases h
theorem mo_st2 {q : SR × Nat} (h : pSt2 t T M k = .inr q) : k < q.2 ∧ (tK (T q.2) = 1 ∨ tK (T q.2) = 0) ∧ okF q.1 M := by
  unfold pSt2 at h
  obtain ⟨p, h1, h2⟩ := bS_inr h
  have e := mo_stm h1
  split at h2
  · cases h2
  · rename_i c
    by_cases ok : okF p.1 M
    · rw [if_pos ok] at h2
      rw [← Sum.inr.inj h2]
      exact ⟨e, Classical.byContradiction c, ok⟩
    · rw [if_neg ok] at h2
      cases h2
/-- labels (token, word), links (token, word, whether far), words, the token at hand -/
abbrev RD : Type := (Nat × (Nat → Nat × Nat)) × (Nat × (Nat → Nat × Nat × Int)) × (Nat × (Nat → B64)) × Nat
def nameE (t : Nat → Int) (A B : TK) : Bool := decide (tE A - tB A = tE B - tB B) && (List.range (tE B - tB B)).all fun i => decide (t (tB A + i) = t (tB B + i))
/-- the label of this name -/
def labX (t : Nat → Int) (T : Nat → TK) (s : RD) (k : Nat) : Option Nat := fnd (fun l => nameE t (T (s.1.2 l).1) (T k)) s.1.1 0
/-- a statement's word comes to the others -/
def updS (s : RD) (q : SR × Nat) : RD := (s.1, (match q.1.2.2 with
    | none => s.2.1
    | some j => (s.2.1.1 + 1, fun u => if u = s.2.1.1 then (j, s.2.2.1.1, wdO q.1.1.1) else s.2.1.2 u)), (s.2.2.1.1 + snW q.1, fun i => if i = s.2.2.1.1 then srW q.1 else if i = s.2.2.1.1 + 1 ∧ ¬ q.1.2.1.2.2 = 0 then q.1.2.1.2.1 else s.2.2.1.2 i), q.2)
noncomputable def pSta (t : Nat → Int) (T : Nat → TK) (s : RD) : Int ⊕ RD := bS (pSt2 t T s.2.2.1.1 s.2.2.2) fun q => .inr (updS s q)
def addL (s : RD) : RD := ((s.1.1 + 1, fun l => if l = s.1.1 then (s.2.2.2, s.2.2.1.1) else s.1.2 l), s.2.1, s.2.2.1, s.2.2.2 + 2)
/-- a line -/
noncomputable def pLin (t : Nat → Int) (T : Nat → TK) (s : RD) : Int ⊕ RD :=
  if tK (T s.2.2.2) = 1 then .inr s
  else if (tK (T s.2.2.2) = 2 ∧ rgR t (T s.2.2.2) < 0) ∧ sgn T 58 (s.2.2.2 + 1) then (match labX t T s s.2.2.2 with
    | some _ => .inl (tB (T s.2.2.2) : Int)
    | none => if tK (T (s.2.2.2 + 2)) = 1 ∨ tK (T (s.2.2.2 + 2)) = 0 then .inr (addL s) else pSta t T (addL s))
  else pSta t T s
/-- lines, to the end -/
noncomputable def pLns (t : Nat → Int) (T : Nat → TK) : Nat → RD → Int ⊕ RD
  | 0, s => .inr s
  | f + 1, s => if tK (T s.2.2.2) = 0 then .inr s else bS (pLin t T s) fun s' => if tK (T s'.2.2.2) = 1 then pLns t T f (s'.1, s'.2.1, s'.2.2.1, s'.2.2.2 + 1) else .inr s'
/-- what holds ahead of a line -/
def invL (T : Nat → TK) (s : RD) : Prop := s.2.2.1.1 ≤ 200 ∧ s.2.1.1 ≤ s.2.2.1.1 ∧ 3 * s.1.1 ≤ tB (T s.2.2.2)
/-- behind it -/
def invE (T : Nat → TK) (s : RD) : Prop := s.2.2.1.1 ≤ 200 ∧ s.2.1.1 ≤ s.2.2.1.1 ∧ 3 * s.1.1 ≤ tB (T s.2.2.2) + 1 ∧ (tK (T s.2.2.2) = 1 ∨ tK (T s.2.2.2) = 0)
end PMO
section PMP
variable {t : Nat → Int} {k j n : Nat}
theorem tks_m1 : tE (tks t n k) ≤ tB (tks t n (k + 1)) := by
  show tE (tks t n k) ≤ tB (tok t n (beg t n (tE (tks t n k))))
  rw [tok_b]
  exact (beg_le (tks_le k).2).1
theorem tks_mo (h : k ≤ j) : tB (tks t n k) ≤ tB (tks t n j) := by
  induction h with
  | refl => exact Nat.le_refl _
  | @step m hm ih =>
    have a := (tks_le (t := t) (n := n) m).1
    exact Nat.le_trans ih (Nat.le_trans a tks_m1)
theorem snW_b {r : SR} : 1 ≤ snW r ∧ snW r ≤ 2 := by
  unfold snW
  split <;> omega
theorem upd_i {s s0 : RD} {q : SR × Nat} (i1 : s.2.2.1.1 ≤ 200 ∧ s.2.1.1 ≤ s.2.2.1.1) (i2 : 3 * s.1.1 ≤ tB (tks t n s.2.2.2) + 1) (h : pSt2 t (tks t n) s.2.2.1.1 s.2.2.2 = .inr q) : invE (tks t n) (updS s q) ∧ s.2.2.2 < q.2 := by
  obtain ⟨a, b, c⟩ := mo_st2 h
  have m := tks_mo (t := t) (n := n) (Nat.le_of_lt a)
  have w := snW_b (r := q.1)
  have c2 : s.2.2.1.1 + snW q.1 ≤ 200 := c.2
  refine ⟨⟨c2, ?_, by show 3 * s.1.1 ≤ tB (tks t n q.2) + 1; omega, b⟩, a⟩
  show (match q.1.2.2 with
    | none => s.2.1
    | some j => (s.2.1.1 + 1, fun u => if u = s.2.1.1 then (j, s.2.2.1.1, wdO q.1.1.1) else s.2.1.2 u)).1 ≤ s.2.2.1.1 + snW q.1
  cases q.1.2.2 with
  | none => show s.2.1.1 ≤ _; omega
  | some j => show s.2.1.1 + 1 ≤ _; omega
theorem pLin_i {s s' : RD} (i : invL (tks t n) s) (h : pLin t (tks t n) s = .inr s') (h0 : ¬ tK (tks t n s.2.2.2) = 0) : invE (tks t n) s' ∧ s.2.2.2 ≤ s'.2.2.2 ∧ (s'.2.2.2 = s.2.2.2 → tK (tks t n s'.2.2.2) = 1) := by
  unfold pLin at h
  split at h
  · rename_i c
    rw [← Sum.inr.inj h]
    exact ⟨⟨i.1, i.2.1, by have := i.2.2; omega, Or.inl c⟩, Nat.le_refl _, fun _ => c⟩
  · split at h
    · rename_i c0 c
      split at h
      · cases h
      · have ka := tks_lt (t := t) (n := n) (k := s.2.2.2) (by rw [c.1.1]; decide)
        have kb := tks_lt (t := t) (n := n) (k := s.2.2.2 + 1) (by rw [c.2.1]; decide)
        have m1 := tks_m1 (t := t) (n := n) (k := s.2.2.2)
        have m2 : tE (tks t n (s.2.2.2 + 1)) ≤ tB (tks t n (s.2.2.2 + 2)) := tks_m1 (t := t) (n := n) (k := s.2.2.2 + 1)
        have i3 := i.2.2
        have al : 3 * (addL s).1.1 ≤ tB (tks t n (addL s).2.2.2) + 1 := by
          show 3 * (s.1.1 + 1) ≤ tB (tks t n (s.2.2.2 + 2)) + 1
          omega
        split at h
        · rename_i ce
          rw [← Sum.inr.inj h]
          exact ⟨⟨i.1, i.2.1, al, ce⟩, by show s.2.2.2 ≤ s.2.2.2 + 2; omega, fun z => by
            have z : s.2.2.2 + 2 = s.2.2.2 := z
            omega⟩
        · unfold pSta at h
          obtain ⟨q, h1, h2⟩ := bS_inr h
          obtain ⟨a, b⟩ := upd_i (s := addL s) (s0 := s) ⟨i.1, i.2.1⟩ al h1
          rw [← Sum.inr.inj h2]
          have b : s.2.2.2 + 2 < q.2 := b
          exact ⟨a, by show s.2.2.2 ≤ q.2; omega, fun z => by
            have z : q.2 = s.2.2.2 := z
            omega⟩
    · unfold pSta at h
      obtain ⟨q, h1, h2⟩ := bS_inr h
      obtain ⟨a, b⟩ := upd_i (s0 := s) ⟨i.1, i.2.1⟩ (by have := i.2.2; omega) h1
      rw [← Sum.inr.inj h2]
      exact ⟨a, by show s.2.2.2 ≤ q.2; omega, fun z => by
        have z : q.2 = s.2.2.2 := z
        omega⟩
end PMP
