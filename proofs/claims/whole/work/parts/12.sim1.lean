/-! ===== locals ===== -/
def locL (ad : Nat → Nat) (ls : List (Option MV)) : List (Nat × Value) := (List.range ls.length).filterMap fun i => match ls[i]? with
  | some (some v) => some (i, rV ad v)
  | _ => none
theorem locL_mem {ad : Nat → Nat} {ls : List (Option MV)} {q : Nat × Value} : q ∈ locL ad ls ↔ ∃ v, ls[q.1]? = some (some v) ∧ q.2 = rV ad v := by
  unfold locL
  rw [List.mem_filterMap]
  constructor
  · rintro ⟨i, hi, h⟩
    split at h
    · rename_i v hv
      cases h
      exact ⟨v, hv, rfl⟩
    · cases h
  · rintro ⟨v, hv, h⟩
    refine ⟨q.1, List.mem_range.mpr (List.getElem?_eq_some_iff.mp hv).1, ?_⟩
    rw [hv]
    show some (q.1, rV ad v) = some q
    rw [← h]
theorem loc_get {ad : Nat → Nat} {ls : List (Option MV)} {LS : Array Slot} {nL i : Nat} {v : MV} (h : lv_has LS nL (locL ad ls)) (hi : ls[i]? = some (some v)) : LS[i]? = some (.val (rV ad v)) := h.2.2 (i, rV ad v) (locL_mem.mpr ⟨v, hi, rfl⟩)
theorem lv_less {LS : Array Slot} {nL : Nat} {a b : List (Nat × Value)} (h : lv_has LS nL a) (hs : ∀ q ∈ b, q ∈ a) : lv_has LS nL b := ⟨h.1, h.2.1, fun q hq => h.2.2 q (hs q hq)⟩
theorem rV_cat1 {ad : Nat → Nat} {v : MV} (h : ∀ b, v ≠ .inr (.inl b)) : (rV ad v).category = 1 := by
  rcases v with x | b | o
  · rfl
  · exact absurd rfl (h b)
  · cases o <;> rfl
theorem lk_get {ls : List (Option MV)} {j i : Nat} {w : MV} (h : (lk ls j)[i]? = some (some w)) : ls[i]? = some (some w) ∧ (i + 1 = j → ∀ b, w ≠ .inr (.inl b)) := by
  unfold lk at h
  split at h
  · exact ⟨h, fun e => by omega⟩
  · rename_i j
    split at h
    · rename_i b hb
      by_cases e : j = i
      · subst e
        rw [List.getElem?_set_self (List.getElem?_eq_some_iff.mp hb).1] at h
        cases h
      · rw [List.getElem?_set_ne e] at h
        exact ⟨h, fun q => absurd (by omega) e⟩
    · rename_i hno
      refine ⟨h, fun q b hb => ?_⟩
      have : i = j := by omega
      subst this
      exact hno b (by rw [h, hb])
theorem loc_l1 {ad : Nat → Nat} {ls : List (Option MV)} {j : Nat} {v : MV} : ∀ q ∈ locL ad (l1 ls j v), q ∈ (j, rV ad v) :: (locL ad ls).filter (fun q => !(q.1 == j) && !(q.1 + 1 == j && q.2.category == 2)) := by
  intro q hq
  obtain ⟨w, hw, e⟩ := locL_mem.mp hq
  unfold l1 at hw
  by_cases hj : j = q.1
  · have hlt := (List.getElem?_eq_some_iff.mp hw).1
    rw [List.length_set] at hlt
    rw [← hj, List.getElem?_set_self (by omega)] at hw
    have : v = w := by simpa using hw
    subst this
    refine List.mem_cons.mpr (Or.inl ?_)
    rw [hj, ← e]
  · rw [List.getElem?_set_ne hj] at hw
    obtain ⟨h1, h2⟩ := lk_get hw
    refine List.mem_cons_of_mem _ (List.mem_filter.mpr ⟨locL_mem.mpr ⟨w, h1, e⟩, ?_⟩)
    simp only [Bool.and_eq_true, Bool.not_eq_true', beq_eq_false_iff_ne, Bool.and_eq_false_iff]
    refine ⟨fun q => hj q.symm, ?_⟩
    by_cases hq1 : q.1 + 1 = j
    · right
      rw [e, rV_cat1 (h2 hq1)]
      decide
    · left
      exact hq1
theorem loc_l2 {ad : Nat → Nat} {ls : List (Option MV)} {j : Nat} {v : MV} : ∀ q ∈ locL ad (l2 ls j v), q ∈ (j, rV ad v) :: (locL ad ls).filter (fun q => !(q.1 == j) && (!(q.1 == j + 1) && !(q.1 + 1 == j && q.2.category == 2))) := by
  intro q hq
  obtain ⟨w, hw, e⟩ := locL_mem.mp hq
  unfold l2 at hw
  have hj1 : j + 1 ≠ q.1 := by
    intro h
    have hlt := (List.getElem?_eq_some_iff.mp hw).1
    rw [List.length_set] at hlt
    rw [← h, List.getElem?_set_self (by rw [h]; exact hlt)] at hw
    cases hw
  rw [List.getElem?_set_ne hj1] at hw
  by_cases hj : j = q.1
  · have hlt := (List.getElem?_eq_some_iff.mp hw).1
    rw [List.length_set] at hlt
    rw [← hj, List.getElem?_set_self (by omega)] at hw
    have : v = w := by simpa using hw
    subst this
    refine List.mem_cons.mpr (Or.inl ?_)
    rw [hj, ← e]
  · rw [List.getElem?_set_ne hj] at hw
    obtain ⟨h1, h2⟩ := lk_get hw
    refine List.mem_cons_of_mem _ (List.mem_filter.mpr ⟨locL_mem.mpr ⟨w, h1, e⟩, ?_⟩)
    simp only [Bool.and_eq_true, Bool.not_eq_true', beq_eq_false_iff_ne, Bool.and_eq_false_iff]
    refine ⟨fun q => hj q.symm, fun q => hj1 q.symm, ?_⟩
    by_cases hq1 : q.1 + 1 = j
    · right
      rw [e, rV_cat1 (h2 hq1)]
      decide
    · left
      exact hq1
theorem l1_ok {ls : List (Option MV)} {j : Nat} {v : MV} {P : MV → Prop} (h : ∀ w, some w ∈ ls → P w) (hv : P v) : ∀ w, some w ∈ l1 ls j v → P w := by
  intro w hw
  obtain ⟨i, hi⟩ := List.mem_iff_getElem?.mp hw
  unfold l1 at hi
  by_cases hj : j = i
  · have hlt := (List.getElem?_eq_some_iff.mp hi).1
    rw [List.length_set] at hlt
    rw [← hj, List.getElem?_set_self (by omega)] at hi
    have : v = w := by simpa using hi
    exact this ▸ hv
  · rw [List.getElem?_set_ne hj] at hi
    exact h w (List.mem_of_getElem? (lk_get hi).1)
theorem l2_ok {ls : List (Option MV)} {j : Nat} {v : MV} {P : MV → Prop} (h : ∀ w, some w ∈ ls → P w) (hv : P v) : ∀ w, some w ∈ l2 ls j v → P w := by
  intro w hw
  obtain ⟨i, hi⟩ := List.mem_iff_getElem?.mp hw
  unfold l2 at hi
  have hj1 : j + 1 ≠ i := by
    intro h
    have hlt := (List.getElem?_eq_some_iff.mp hi).1
    rw [List.length_set] at hlt
    rw [← h, List.getElem?_set_self (by rw [h]; exact hlt)] at hi
    cases hi
  rw [List.getElem?_set_ne hj1] at hi
  by_cases hj : j = i
  · have hlt := (List.getElem?_eq_some_iff.mp hi).1
    rw [List.length_set] at hlt
    rw [← hj, List.getElem?_set_self (by omega)] at hi
    have : v = w := by simpa using hi
    exact this ▸ hv
  · rw [List.getElem?_set_ne hj] at hi
    exact h w (List.mem_of_getElem? (lk_get hi).1)
theorem mem_get {ls : List (Option MV)} {i : Nat} {v : MV} (h : ls[i]? = some (some v)) : some v ∈ ls := List.mem_of_getElem? h
