/-! ===== runs of the small machine ===== -/
def rSw {α : Type} (x : Int) (l : List (Int × α)) (d : α) : α := match l with
  | [] => d
  | q :: t => if x = q.1 then q.2 else rSw x t d
/-- a method's beginning; a machine that stops where its arguments take more than its locals -/
def enC (m : Nat) (as : List MV) (σ : MS) : Cf := if (mkA as).length ≤ mX m then (tG m 0, mkL (mX m) as, [], σ) else ([], [], [], σ)
def run : Nat → (Nat → List Ins) → Cf → Option Rs
  | 0, _, _ => none
  | n + 1, tg, c => match mstep tg c with
    | none => none
    | some (.inl c') => run n tg c'
    | some (.inr (.inl (p, x, y))) => @ite _ p.1 p.2 (run n tg x) (run n tg y)
    | some (.inr (.inr (.inl (p, q)))) => @ite _ p.1 p.2 (some q) none
    | some (.inr (.inr (.inr (.inl (p, m, as, σ, k))))) => @ite _ p.1 p.2 ((run n (tG m) (enC m as σ)).bind fun q => run n tg (k q)) none
    | some (.inr (.inr (.inr (.inr (x, l, d))))) => run n tg (rSw x l d)
theorem run_mono : ∀ (n : Nat) (tg : Nat → List Ins) (c : Cf) (r : Rs), run n tg c = some r → run (n + 1) tg c = some r := by
  intro n
  induction n with
  | zero => intro tg c r h; cases h
  | succ n ih =>
    intro tg c r h
    rw [run] at h ⊢
    split at h
    · cases h
    · exact ih _ _ _ h
    · rename_i p x y _
      by_cases hp : p.1
      · rw [if_pos hp] at h ⊢
        exact ih _ _ _ h
      · rw [if_neg hp] at h ⊢
        exact ih _ _ _ h
    · exact h
    · rename_i p m as σ k _
      by_cases hp : p.1
      · rw [if_pos hp] at h ⊢
        obtain ⟨q, h1, h2⟩ := Option.bind_eq_some_iff.mp h
        exact Option.bind_eq_some_iff.mpr ⟨q, ih _ _ _ h1, ih _ _ _ h2⟩
      · rw [if_neg hp] at h
        cases h
    · exact ih _ _ _ h
theorem run_le {n k : Nat} {tg : Nat → List Ins} {c : Cf} {r : Rs} (h : run n tg c = some r) (hk : n ≤ k) : run k tg c = some r := by
  induction hk with
  | refl => exact h
  | step _ ih => exact run_mono _ _ _ _ ih
/-- what a run answers, if one long enough does -/
noncomputable def RR (tg : Nat → List Ins) (c : Cf) : Option Rs := @dite _ (∃ n r, run n tg c = some r) (Classical.propDecidable _) (fun h => run h.choose tg c) (fun _ => none)
noncomputable def MM (m : Nat) (as : List MV) (σ : MS) : Option Rs := RR (tG m) (enC m as σ)
theorem RR_of {n : Nat} {tg : Nat → List Ins} {c : Cf} {r : Rs} (h : run n tg c = some r) : RR tg c = some r := by
  have hx : ∃ n r, run n tg c = some r := ⟨n, r, h⟩
  unfold RR
  rw [dif_pos hx]
  obtain ⟨r2, h2⟩ := hx.choose_spec
  rw [h2]
  have a := run_le h (Nat.le_max_left n hx.choose)
  have b := run_le h2 (Nat.le_max_right n hx.choose)
  rw [a] at b
  exact b.symm
theorem RR_ex {tg : Nat → List Ins} {c : Cf} {r : Rs} (h : RR tg c = some r) : ∃ n, run n tg c = some r := by
  unfold RR at h
  split at h
  · rename_i hx
    exact ⟨_, h⟩
  · cases h
theorem RR_ext {tg tg' : Nat → List Ins} {c c' : Cf} (h : ∀ r, (∃ n, run n tg c = some r) ↔ ∃ n, run n tg' c' = some r) : RR tg c = RR tg' c' := by
  cases e : RR tg c with
  | some r =>
    obtain ⟨n, hn⟩ := (h r).mp (RR_ex e)
    exact (RR_of hn).symm
  | none =>
    cases e' : RR tg' c' with
    | none => rfl
    | some r =>
      obtain ⟨n, hn⟩ := (h r).mpr (RR_ex e')
      rw [RR_of hn] at e
      cases e
/-- n steps, then what the run answers -/
noncomputable def ev (tg : Nat → List Ins) : Nat → Cf → Option Rs
  | 0, c => RR tg c
  | n + 1, c => match mstep tg c with
    | none => none
    | some (.inl c') => ev tg n c'
    | some (.inr (.inl (p, x, y))) => @ite _ p.1 p.2 (ev tg n x) (ev tg n y)
    | some (.inr (.inr (.inl (p, q)))) => @ite _ p.1 p.2 (some q) none
    | some (.inr (.inr (.inr (.inl (p, m, as, σ, k))))) => @ite _ p.1 p.2 ((MM m as σ).bind fun q => ev tg n (k q)) none
    | some (.inr (.inr (.inr (.inr (x, l, d))))) => rSw x (l.map fun q => (q.1, ev tg n q.2)) (ev tg n d)
theorem rSw_map {α β : Type} (f : α → β) (x : Int) (d : α) : ∀ l : List (Int × α), rSw x (l.map fun q => (q.1, f q.2)) (f d) = f (rSw x l d)
  | [] => rfl
  | q :: t => by
    show (if x = q.1 then f q.2 else rSw x (t.map fun q => (q.1, f q.2)) (f d)) = f (if x = q.1 then q.2 else rSw x t d)
    rw [rSw_map f x d t]
    split <;> rfl
theorem RR_ev (tg : Nat → List Ins) : ∀ (n : Nat) (c : Cf), RR tg c = ev tg n c := by
  intro n
  induction n with
  | zero => intro c; rfl
  | succ n ih =>
    intro c
    rw [ev]
    have key : ∀ r, (∃ k, run k tg c = some r) ↔ ∃ k, run (k + 1) tg c = some r := fun r => ⟨fun ⟨k, h⟩ => ⟨k, run_mono _ _ _ _ h⟩, fun ⟨k, h⟩ => ⟨k + 1, h⟩⟩
    have none' : (∀ k r, run k tg c ≠ some r) → RR tg c = none := fun h => by
      cases e : RR tg c with
      | none => rfl
      | some r => obtain ⟨k, hk⟩ := RR_ex e; exact absurd hk (h k r)
    split
    · rename_i hm
      refine none' fun k r h => ?_
      have h := run_mono _ _ _ _ h
      rw [run, hm] at h
      cases h
    · rename_i c' hm
      rw [← ih]
      refine RR_ext fun r => (key r).trans ⟨fun ⟨k, h⟩ => ⟨k, ?_⟩, fun ⟨k, h⟩ => ⟨k, ?_⟩⟩
      · rw [run, hm] at h; exact h
      · rw [run, hm]; exact h
    · rename_i p x y hm
      by_cases hp : p.1
      · rw [if_pos hp, ← ih]
        refine RR_ext fun r => (key r).trans ⟨fun ⟨k, h⟩ => ⟨k, ?_⟩, fun ⟨k, h⟩ => ⟨k, ?_⟩⟩
        · rw [run, hm] at h; simp only [if_pos hp] at h; exact h
        · rw [run, hm]; simp only [if_pos hp]; exact h
      · rw [if_neg hp, ← ih]
        refine RR_ext fun r => (key r).trans ⟨fun ⟨k, h⟩ => ⟨k, ?_⟩, fun ⟨k, h⟩ => ⟨k, ?_⟩⟩
        · rw [run, hm] at h; simp only [if_neg hp] at h; exact h
        · rw [run, hm]; simp only [if_neg hp]; exact h
    · rename_i p q hm
      by_cases hp : p.1
      · rw [if_pos hp]
        refine RR_of (n := 1) ?_
        rw [run, hm]; simp only [if_pos hp]
      · rw [if_neg hp]
        refine none' fun k r h => ?_
        have h := run_mono _ _ _ _ h
        rw [run, hm] at h
        simp only [if_neg hp] at h
        cases h
    · rename_i p m as σ kk hm
      by_cases hp : p.1
      · rw [if_pos hp]
        cases e : MM m as σ with
        | none =>
          refine none' fun k r h => ?_
          have h := run_mono _ _ _ _ h
          rw [run, hm] at h
          simp only [if_pos hp] at h
          obtain ⟨q, h1, -⟩ := Option.bind_eq_some_iff.mp h
          have := RR_of h1
          rw [show RR (tG m) (enC m as σ) = none from e] at this
          cases this
        | some q =>
          rw [Option.bind_some, ← ih]
          obtain ⟨j, hj⟩ := RR_ex (show RR (tG m) (enC m as σ) = some q from e)
          refine RR_ext fun r => (key r).trans ⟨fun ⟨k, h⟩ => ?_, fun ⟨k, h⟩ => ⟨max j k, ?_⟩⟩
          · rw [run, hm] at h
            simp only [if_pos hp] at h
            obtain ⟨q2, h1, h2⟩ := Option.bind_eq_some_iff.mp h
            have := RR_of h1
            rw [show RR (tG m) (enC m as σ) = some q from e] at this
            cases this
            exact ⟨k, h2⟩
          · rw [run, hm]
            simp only [if_pos hp]
            exact Option.bind_eq_some_iff.mpr ⟨q, run_le hj (Nat.le_max_left _ _), run_le h (Nat.le_max_right _ _)⟩
      · rw [if_neg hp]
        refine none' fun k r h => ?_
        have h := run_mono _ _ _ _ h
        rw [run, hm] at h
        simp only [if_neg hp] at h
        cases h
    · rename_i x l d hm
      rw [rSw_map (ev tg n) x d l, ← ih]
      refine RR_ext fun r => (key r).trans ⟨fun ⟨k, h⟩ => ⟨k, ?_⟩, fun ⟨k, h⟩ => ⟨k, ?_⟩⟩
      · rw [run, hm] at h; exact h
      · rw [run, hm]; exact h
/-- a marker ahead of a block: nothing is done -/
theorem RR_nop (tg : Nat → List Ins) (q : Nat × Nat × Nat × Nat × List (Int × Nat)) (r : List Ins) (ls : List (Option MV)) (st : List MV) (σ : MS) : RR tg ((.nop, q) :: r, ls, st, σ) = RR tg (r, ls, st, σ) := RR_ev tg 1 _
/-- steps up to the next marker -/
noncomputable def eS (tg : Nat → List Ins) : Nat → Cf → Option Rs
  | 0, c => RR tg c
  | n + 1, c => match c.1 with
    | (.nop, _) :: _ => RR tg c
    | _ => match mstep tg c with
      | none => none
      | some (.inl c') => eS tg n c'
      | some (.inr (.inl (p, x, y))) => @ite _ p.1 p.2 (eS tg n x) (eS tg n y)
      | some (.inr (.inr (.inl (p, q)))) => @ite _ p.1 p.2 (some q) none
      | some (.inr (.inr (.inr (.inl (p, m, as, σ, k))))) => @ite _ p.1 p.2 ((MM m as σ).bind fun q => eS tg n (k q)) none
      | some (.inr (.inr (.inr (.inr (x, l, d))))) => rSw x (l.map fun q => (q.1, eS tg n q.2)) (eS tg n d)
theorem RR_eS (tg : Nat → List Ins) : ∀ (n : Nat) (c : Cf), RR tg c = eS tg n c := by
  intro n
  induction n with
  | zero => intro c; rfl
  | succ n ih =>
    intro c
    rw [eS]
    split
    · rfl
    · rw [RR_ev tg 1 c, ev]
      split <;> simp only [ev, ih]
