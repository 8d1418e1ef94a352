/-! ===== FORM and PLACE, as such ===== -/
section FP
variable {p : Nat → B64} {n : Nat}
noncomputable def dPl (w : B64) : Decidable (okPl w) := Classical.propDecidable _
noncomputable def spn (p : Nat → B64) (n i : Nat) : Nat := if fOp (p i) = 24 then (if i + 1 < n ∧ okPr (p i) (p (i + 1)) then 2 else 0) else @ite _ (okPl (p i)) (dPl (p i)) 1 0
/-- the first word that is no instruction; where instructions begin -/
noncomputable def frmP (p : Nat → B64) (n : Nat) : Nat → Nat → (Nat → Bool) → Option Nat × (Nat → Bool)
  | 0, _, S => (none, S)
  | f + 1, i, S => if n ≤ i then (none, S) else if spn p n i = 0 then (some i, S) else frmP p n f (i + spn p n i) (fun j => if j = i then true else S j)
abbrev isCal (w : B64) : Prop := fOp w = 133 ∧ fS w = 1
abbrev ledO (w : B64) : Prop := fOp w = 5 ∨ fOp w = 6 ∨ (fL w = 5 ∨ fL w = 6) ∧ isCmpO (fOp w)
/-- where a function begins -/
def bgnP (p : Nat → B64) (n : Nat) (S : Nat → Bool) (j : Nat) : Bool := decide (j = 0) || (decide (j < n) && S j && (List.range n).any fun i => S i && decide (isCal (p i) ∧ goal i (p i) = j))
def fnoP (B : Nat → Bool) : Nat → Nat
  | 0 => 0
  | i + 1 => if B (i + 1) = true then i + 1 else fnoP B i
abbrev isTh (n : Nat) (S : Nat → Bool) (g : Int) : Prop := (0 ≤ g ∧ g < n) ∧ S g.toNat = true
def godP (p : Nat → B64) (n : Nat) (S : Nat → Bool) (i : Nat) : Prop :=
  (ledO (p i) ∨ isCal (p i) → isTh n S (goal i (p i))) ∧ (ledO (p i) → fnoP (bgnP p n S) (goal i (p i)).toNat = fnoP (bgnP p n S) i)
  ∧ (n ≤ i + spn p n i ∨ bgnP p n S (i + spn p n i) = true → fOp (p i) = 149 ∨ fOp (p i) = 5 ∨ fOp (p i) = 6)
def joiP (p : Nat → B64) (n : Nat) (S : Nat → Bool) (j : Int) : Bool := (List.range n).any fun i => S i && decide (ledO (p i) ∧ goal i (p i) = j)
theorem spn_le (i : Nat) : spn p n i ≤ 2 := by
  unfold spn
  repeat' split
  all_goals omega
theorem frm_s : ∀ (f i : Nat) (S0 S : Nat → Bool), frmP p n f i S0 = (none, S) → n ≤ i + f → (∀ j, S0 j = true → S j = true) ∧ (i < n → S i = true) ∧ (∀ j, S j = true → S0 j = true ∨ (i ≤ j ∧ j < n ∧ ¬ spn p n j = 0 ∧ (j + spn p n j < n → S (j + spn p n j) = true))) := by
  intro f
  induction f with
  | zero =>
    intro i S0 S h hf
    cases h
    exact ⟨fun j h => h, fun h => by omega, fun j h => Or.inl h⟩
  | succ f ih =>
    intro i S0 S h hf
    unfold frmP at h
    by_cases c : n ≤ i
    · rw [if_pos c] at h
      cases h
      exact ⟨fun j h => h, fun h => by omega, fun j h => Or.inl h⟩
    · rw [if_neg c] at h
      by_cases z : spn p n i = 0
      · rw [if_pos z] at h
        cases h
      · rw [if_neg z] at h
        obtain ⟨a1, a2, a3⟩ := ih _ _ _ h (by omega)
        refine ⟨fun j hj => a1 j ?_, fun _ => a1 i ?_, fun j hj => ?_⟩
        · show (if j = i then true else S0 j) = true
          split
          · rfl
          · exact hj
        · show (if i = i then true else S0 i) = true
          rw [if_pos rfl]
        · rcases a3 j hj with q | q
          · have q : (if j = i then true else S0 j) = true := q
            by_cases e : j = i
            · subst e
              exact Or.inr ⟨Nat.le_refl _, by omega, z, a2⟩
            · rw [if_neg e] at q
              exact Or.inl q
          · exact Or.inr ⟨by omega, q.2⟩
/-- the words at which instructions begin -/
def GP (n : Nat) (S : Nat → Bool) (i : Int) : Prop := isTh n S i
theorem okP_of {S : Nat → Bool} (hf : frmP p n (n + 1) 0 (fun _ => false) = (none, S)) (hg : ∀ i, i < n → S i = true → godP p n S i) : okP (GP n S) (fun i => p i.toNat) := by
  obtain ⟨-, -, s3⟩ := frm_s _ _ _ _ hf (by omega)
  intro i hi
  obtain ⟨⟨i1, i2⟩, i3⟩ := hi
  obtain ⟨m, rfl⟩ : ∃ m : Nat, i = m := ⟨i.toNat, by omega⟩
  rw [Int.toNat_natCast] at i3
  have lt : m < n := by omega
  obtain ⟨-, -, b1, b2⟩ := (s3 m i3).resolve_left (fun q => by cases q)
  obtain ⟨g1, g2, g3⟩ := hg m lt i3
  have e1 : ((m : Int) + 1).toNat = m + 1 := by omega
  show okI (p (m : Int).toNat) (p ((m : Int) + 1).toNat) ∧ (fL (p (m : Int).toNat) = 0 → GP n S ((m : Int) + 2)) ∧ (¬ fL (p (m : Int).toNat) = 0 → ¬ fOp (p (m : Int).toNat) = 149 → ¬ fOp (p (m : Int).toNat) = 5 → ¬ fOp (p (m : Int).toNat) = 6 → GP n S ((m : Int) + 1)) ∧ ((fL (p (m : Int).toNat) = 5 ∨ fL (p (m : Int).toNat) = 6) → ¬ fOp (p (m : Int).toNat) = 149 → (fOp (p (m : Int).toNat) = 133 → fS (p (m : Int).toNat) = 1) → GP n S (goal (m : Int) (p (m : Int).toNat)))
  rw [e1, Int.toNat_natCast]
  have key : ∀ k, spn p n m = k → (fOp (p m) = 149 ∨ fOp (p m) = 5 ∨ fOp (p m) = 6) ∨ GP n S ((m : Int) + k) := fun k hk => by
    rw [hk] at b2 g3
    by_cases c : n ≤ m + k ∨ bgnP p n S (m + k) = true
    · exact Or.inl (g3 c)
    · have l2 : m + k < n := by omega
      exact Or.inr ⟨⟨by omega, by omega⟩, by rw [show ((m : Int) + k).toNat = m + k by omega]; exact b2 l2⟩
  by_cases c24 : fOp (p m) = 24
  · have l0 : fL (p m) = 0 := by unfold fL; omega
    have s2 : m + 1 < n ∧ okPr (p m) (p (m + 1)) := by
      refine Classical.byContradiction fun q => b1 ?_
      unfold spn
      rw [if_pos c24, if_neg q]
    have sp : spn p n m = 2 := by
      unfold spn
      rw [if_pos c24, if_pos s2]
    refine ⟨Or.inl ⟨l0, s2.2⟩, fun _ => (key 2 sp).resolve_left (by omega), fun q => absurd l0 q, fun q => by omega⟩
  · have pl : okPl (p m) := by
      refine Classical.byContradiction fun q => b1 ?_
      unfold spn
      rw [if_neg c24, if_neg q]
    have sp : spn p n m = 1 := by
      unfold spn
      rw [if_neg c24, if_pos pl]
    have l0 : ¬ fL (p m) = 0 := fun q => by
      unfold okPl at pl
      rw [if_pos q] at pl
      exact pl
    refine ⟨Or.inr pl, fun q => absurd q l0, fun _ x1 x2 x3 => (key 1 sp).resolve_left (by omega), fun l56 x1 x2 => g1 ?_⟩
    by_cases c133 : fOp (p m) = 133
    · exact Or.inr ⟨c133, x2 c133⟩
    · left
      unfold okPl at pl
      rw [if_neg l0, if_neg (by omega), if_pos l56] at pl
      unfold okJmp at pl
      by_cases c5 : fOp (p m) = 5
      · exact Or.inl c5
      · by_cases c6 : fOp (p m) = 6
        · exact Or.inr (Or.inl c6)
        · rw [if_neg c5, if_neg c6, if_neg c133, if_neg x1] at pl
          exact Or.inr (Or.inr ⟨l56, pl.1.1⟩)
end FP
