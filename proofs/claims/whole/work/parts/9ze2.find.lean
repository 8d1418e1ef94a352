/-! ===== lists: finding ===== -/
theorem find_cg {n : Nat} {f g : Nat → Bool} (h : ∀ i, i < n → f i = g i) : (List.range n).find? f = (List.range n).find? g := by
  have key : ∀ l : List Nat, (∀ i ∈ l, f i = g i) → l.find? f = l.find? g := by
    intro l
    induction l with
    | nil => intro _; rfl
    | cons a l ih =>
      intro q
      rw [List.find?_cons, List.find?_cons, q a (List.mem_cons_self ..), ih fun i hi => q i (List.mem_cons_of_mem _ hi)]
  exact key _ fun i hi => h i (List.mem_range.mp hi)
theorem all_cg {n : Nat} {f g : Nat → Bool} (h : ∀ i, i < n → f i = g i) : (List.range n).all f = (List.range n).all g := by
  have key : ∀ l : List Nat, (∀ i ∈ l, f i = g i) → l.all f = l.all g := by
    intro l
    induction l with
    | nil => intro _; rfl
    | cons a l ih =>
      intro q
      rw [List.all_cons, List.all_cons, q a (List.mem_cons_self ..), ih fun i hi => q i (List.mem_cons_of_mem _ hi)]
  exact key _ fun i hi => h i (List.mem_range.mp hi)
theorem find_rng {n x : Nat} {f : Nat → Bool} (hx : x < n) (h : f x = true) (q : ∀ i, i < x → f i = false) : (List.range n).find? f = some x := by
  obtain ⟨d, rfl⟩ : ∃ d, n = x + (d + 1) := ⟨n - x - 1, by omega⟩
  have e : List.range (x + (d + 1)) = List.range x ++ x :: (List.range' (x + 1) d) := by
    rw [List.range_eq_range', List.range_eq_range', ← List.range'_append_1, List.range'_succ, Nat.zero_add]
  have nf : (List.range x).find? f = none := List.find?_eq_none.mpr fun i hi => by
    rw [q i (List.mem_range.mp hi)]
    decide
  rw [e, List.find?_append, nf, List.find?_cons, h]
  rfl
