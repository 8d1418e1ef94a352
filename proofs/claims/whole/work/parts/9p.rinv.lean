/-! ===== the reference's runs: bounds that stay ===== -/
section RINV
variable {c c' : TC WR} {W V : WR} {w w2 x A a F v : B64} {r f b k n o s m e N : Nat} {y nx hh i p p' : Int} {E : EV} {l key val : List Int}
theorem hld_e (h2 : ∀ s, wg V 152 s = wg W 152 s) (h1 : ∀ s, wg V 151 s = wg W 151 s) : hldR V m = hldR W m := by
  unfold hldR
  refine congrArg (fun p => (List.filter p (List.range 64)).length) ?_
  funext i
  rw [h2, h1]
theorem inv_5 (h : invW W) (e0 : ∀ s, wg V 150 s = wg W 150 s) (e1 : ∀ s, wg V 151 s = wg W 151 s) (e2 : ∀ s, wg V 152 s = wg W 152 s) : ∀ i, i < 64 → ¬ wg V 152 i = 0 → (0 ≤ wg V 151 i ∧ wg V 151 i < 8) ∧ (1 ≤ wg V 150 i ∧ wg V 150 i ≤ 64) := fun i hi z => by
  rw [e2] at z
  rw [e0, e1]
  exact h.2.2.2.2.1 i hi z
theorem inv_6 (h : invW W) (e1 : ∀ s, wg V 151 s = wg W 151 s) (e2 : ∀ s, wg V 152 s = wg W 152 s) (e7 : ∀ s, wg V 107 s = wg W 107 s) (e9 : ∀ s, wg V 99 s = wg W 99 s) : ∀ m, m < 8 → 0 ≤ wg V 107 m ∧ wg V 107 m + (hldR V m : Int) ≤ wg V 99 m := fun m hm => by
  rw [e7, e9, hld_e e2 e1]
  exact h.2.2.2.2.2.1 m hm
theorem inv_c (h : invW W) (e96 : ∀ s, wg V 96 s = wg W 96 s) (e97 : ∀ s, wg V 97 s = wg W 97 s) (e98 : ∀ s, wg V 98 s = wg W 98 s) (e99 : ∀ s, wg V 99 s = wg W 99 s) (e101 : ∀ s, wg V 101 s = wg W 101 s) (e103 : ∀ s, wg V 103 s = wg W 103 s) (b3 : ∀ k s, k = 102 ∨ k = 144 ∨ k = 149 → -128 ≤ wg V k s ∧ wg V k s < 128) (e5 : (0 ≤ wg V 80 105 ∧ wg V 80 105 ≤ 256) ∧ (0 ≤ wg V 80 113 ∧ wg V 80 113 ≤ 2000) ∧ (0 ≤ wg V 80 110 ∧ wg V 80 110 ≤ 8)) (e150 : ∀ s, wg V 150 s = wg W 150 s) (e151 : ∀ s, wg V 151 s = wg W 151 s) (e152 : ∀ s, wg V 152 s = wg W 152 s) (e107 : ∀ s, wg V 107 s = wg W 107 s) (e106 : ∀ s, wg V 106 s = wg W 106 s) : invW V :=
  ⟨fun m hm => by rw [e96, e97, e98, e99, e101]; exact h.1 m hm, fun m e hm he => by
    rw [e101] at he
    rw [e103]
    exact h.2.1 m e hm he, b3, e5, inv_5 h e150 e151 e152, inv_6 h e151 e152 e107 e99, fun m x hm hx => by rw [e106]; exact h.2.2.2.2.2.2 m x hm hx⟩
theorem inv_b (h : invW W) (hk : k = 144 ∨ k = 149 ∨ k = 100) (hy : -128 ≤ y ∧ y < 128) : invW (wset W k s y) := by
  have g : ∀ k' s', ¬ k' = k → wg (wset W k s y) k' s' = wg W k' s' := fun k' s' z => wg_wset_o z
  refine inv_c h (fun s => g _ _ (by omega)) (fun s => g _ _ (by omega)) (fun s => g _ _ (by omega)) (fun s => g _ _ (by omega)) (fun s => g _ _ (by omega)) (fun s => g _ _ (by omega)) (fun k' s' q => ?_) ?_ (fun s => g _ _ (by omega)) (fun s => g _ _ (by omega)) (fun s => g _ _ (by omega)) (fun s => g _ _ (by omega)) (fun s => g _ _ (by omega))
  · rw [wg_wset]
    split
    · exact hy
    · exact h.2.2.1 k' s' q
  · rw [g _ _ (by omega), g _ _ (by omega), g _ _ (by omega)]
    exact h.2.2.2.1
theorem kpW_in (z : B64) : -128 ≤ kpW z ∧ kpW z < 128 := w8_in _
theorem inw_B (h : invW W) : invW (RB.2.2.1 W o b v) := by
  show invW (if o ≤ 271 then wset W 100 _ (kpW v) else if o = 280 then wset W 144 _ (kpW v) else wset W 149 _ (kpW v))
  split
  · exact inv_b h (Or.inr (Or.inr rfl)) (kpW_in v)
  · split
    · exact inv_b h (Or.inl rfl) (kpW_in v)
    · exact inv_b h (Or.inr (Or.inl rfl)) (kpW_in v)
theorem inv_80 (h : invW W) (hs : s = 106 ∨ s = 107 ∨ s = 122 ∨ s = 113 ∧ (0 ≤ y ∧ y ≤ 2000) ∨ s = 110 ∧ (0 ≤ y ∧ y ≤ 8) ∨ s = 105 ∧ (0 ≤ y ∧ y ≤ 256)) : invW (wset W 80 s y) := by
  have g : ∀ k' s', ¬ k' = 80 → wg (wset W 80 s y) k' s' = wg W k' s' := fun k' s' z => wg_wset_o z
  refine inv_c h (fun s => g _ _ (by omega)) (fun s => g _ _ (by omega)) (fun s => g _ _ (by omega)) (fun s => g _ _ (by omega)) (fun s => g _ _ (by omega)) (fun s => g _ _ (by omega)) (fun k' s' q => ?_) ?_ (fun s => g _ _ (by omega)) (fun s => g _ _ (by omega)) (fun s => g _ _ (by omega)) (fun s => g _ _ (by omega)) (fun s => g _ _ (by omega))
  · rw [g _ _ (by omega)]
    exact h.2.2.1 k' s' q
  · have q := h.2.2.2.1
    rw [wg_wset, wg_wset, wg_wset]
    refine ⟨?_, ?_, ?_⟩
    · split
      · omega
      · exact q.1
    · split
      · omega
      · exact q.2.1
    · split
      · omega
      · exact q.2.2
theorem inv_q (h : invW W) (hk : k = 145 ∨ k = 104 ∨ k = 105 ∨ k = 108 ∨ k = 109 ∨ k = 100) (e : ∀ k' s', ¬ k' = k → wg V k' s' = wg W k' s') : invW V := by
  refine inv_c h (fun s => e _ _ (by omega)) (fun s => e _ _ (by omega)) (fun s => e _ _ (by omega)) (fun s => e _ _ (by omega)) (fun s => e _ _ (by omega)) (fun s => e _ _ (by omega)) (fun k' s' q => ?_) ?_ (fun s => e _ _ (by omega)) (fun s => e _ _ (by omega)) (fun s => e _ _ (by omega)) (fun s => e _ _ (by omega)) (fun s => e _ _ (by omega))
  · rw [e _ _ (by omega)]
    exact h.2.2.1 k' s' q
  · rw [e _ _ (by omega), e _ _ (by omega), e _ _ (by omega)]
    exact h.2.2.2.1
theorem inv_tra : ∀ (l : List Int) (W : WR), invW W → invW (traR W l) := by
  intro l
  induction l with
  | nil => intro W h; exact h
  | cons b l ih =>
    intro W h
    refine ih _ ?_
    by_cases q : wg W 80 113 < 2000
    · rw [if_pos q]
      have := h.2.2.2.1.2.1
      exact inv_80 (inv_q h (Or.inl rfl) (fun k' s' z => wg_wset_o z)) (Or.inr (Or.inr (Or.inr (Or.inl ⟨rfl, by omega⟩))))
    · rw [if_neg q]
      exact h
theorem inv_tri (h : invW W) : invW (triR W x).1 := by
  unfold triR
  dsimp only
  have p := h.2.2.2.1.1
  by_cases c1 : wg W 80 105 < lI x ∨ lI x < 0 ∧ 256 < wg W 80 105 - lI x
  · rw [if_pos c1]
    exact h
  · rw [if_neg c1]
    obtain ⟨U, hU⟩ : ∃ U : WR, U = (fun (k s : Nat) => if k = 144 ∧ (s : Int) < wg W 80 105 - lI x then (if 0 ≤ (s : Int) + lI x then W.1 144 ((s : Int) + lI x).toNat else 0) else W.1 k s, W.2) := ⟨_, rfl⟩
    have g : ∀ k' s', ¬ k' = 144 → wg U k' s' = wg W k' s' := fun k' s' z => by
      rw [hU]
      exact if_neg fun q => z q.1
    have iu : invW U := by
      refine inv_c h (fun s => g _ _ (by omega)) (fun s => g _ _ (by omega)) (fun s => g _ _ (by omega)) (fun s => g _ _ (by omega)) (fun s => g _ _ (by omega)) (fun s => g _ _ (by omega)) (fun k' s' q => ?_) ?_ (fun s => g _ _ (by omega)) (fun s => g _ _ (by omega)) (fun s => g _ _ (by omega)) (fun s => g _ _ (by omega)) (fun s => g _ _ (by omega))
      · rw [hU]
        show -128 ≤ (if k' = 144 ∧ (s' : Int) < wg W 80 105 - lI x then (if 0 ≤ (s' : Int) + lI x then W.1 144 ((s' : Int) + lI x).toNat else 0) else W.1 k' s') ∧ (if k' = 144 ∧ (s' : Int) < wg W 80 105 - lI x then (if 0 ≤ (s' : Int) + lI x then W.1 144 ((s' : Int) + lI x).toNat else 0) else W.1 k' s') < 128
        split
        · split
          · exact h.2.2.1 144 _ (by omega)
          · decide
        · exact h.2.2.1 k' s' q
      · rw [g _ _ (by omega), g _ _ (by omega), g _ _ (by omega)]
        exact h.2.2.2.1
    rw [← hU]
    exact inv_80 iu (Or.inr (Or.inr (Or.inr (Or.inr (Or.inr ⟨rfl, by omega⟩)))))
/-! maps -/
theorem inv_m (h : invW W) (hm : m < 8) (e : ∀ k' s', ¬ (100 ≤ k' ∧ k' ≤ 105) → wg V k' s' = wg W k' s') (e1 : ∀ s, ¬ s = m → wg V 101 s = wg W 101 s) (b1 : 0 ≤ wg V 101 m ∧ wg V 101 m ≤ wg W 99 m) (e3 : ∀ s, ¬ (16 * m ≤ s ∧ s < 16 * m + 16) → wg V 103 s = wg W 103 s) (b3 : ∀ e : Nat, (e : Int) < wg V 101 m → 0 ≤ wg V 103 (16 * m + e) ∧ wg V 103 (16 * m + e) < 32) (b2 : ∀ s, -128 ≤ wg V 102 s ∧ wg V 102 s < 128) : invW V := by
  refine ⟨fun j hj => ?_, fun j e' hj he => ?_, fun k' s' q => ?_, ?_, inv_5 h (fun s => e _ _ (by omega)) (fun s => e _ _ (by omega)) (fun s => e _ _ (by omega)), inv_6 h (fun s => e _ _ (by omega)) (fun s => e _ _ (by omega)) (fun s => e _ _ (by omega)) (fun s => e _ _ (by omega)), fun j x hj hx => ?_⟩
  · have q := h.1 j hj
    rw [e 96 _ (by omega), e 97 _ (by omega), e 98 _ (by omega), e 99 _ (by omega)]
    by_cases z : j = m
    · subst z
      exact ⟨⟨q.1.1, q.1.2.1, q.1.2.2.1, b1⟩, q.2⟩
    · rw [e1 j z]
      exact q
  · by_cases z : j = m
    · subst z
      exact b3 e' he
    · rw [e1 j z] at he
      have q := (h.1 j hj).1
      rw [e3 _ (by omega)]
      exact h.2.1 j e' hj he
  · by_cases z : k' = 102
    · subst z
      exact b2 s'
    · rw [e _ _ (by omega)]
      exact h.2.2.1 k' s' q
  · rw [e _ _ (by omega), e _ _ (by omega), e _ _ (by omega)]
    exact h.2.2.2.1
  · rw [e _ _ (by omega)]
    exact h.2.2.2.2.2.2 j x hj hx
theorem inv_put (h : invW W) : invW (putR W m e l) := inv_q h (k := 100) (by omega) (fun k' s' z => wg_wsL_o z)
theorem take_in {L : List B64} {q : Nat} (hq : q < ((L.map kpW).take n).length) : -128 ≤ ((L.map kpW).take n).getD q 0 ∧ ((L.map kpW).take n).getD q 0 < 128 := by
  rw [List.getD_eq_getElem?_getD, List.getElem?_eq_getElem hq, List.getElem_take, List.getElem_map]
  exact kpW_in _
theorem inv_upd {L : List B64} (h : invW W) (hm : m < 8) : invW (updR W m (L.map kpW) val y).1 := by
  have i1 := (h.1 m hm).1
  unfold updR
  by_cases c1 : y < 0 ∨ 2 < y
  · rw [if_pos c1]
    exact h
  · rw [if_neg c1]
    cases finR W m (L.map kpW) with
    | some j =>
      dsimp only
      split
      · exact h
      · exact inv_put h
    | none =>
      dsimp only
      by_cases c2 : wg W 96 m = 0
      · rw [if_pos c2]
        exact h
      · rw [if_neg c2]
        by_cases c3 : y = 2
        · rw [if_pos c3]
          exact h
        · rw [if_neg c3]
          by_cases c4 : wg W 101 m = wg W 99 m
          · rw [if_pos c4]
            exact h
          · rw [if_neg c4]
            cases q : freR W m with
            | none => exact h
            | some j =>
              have lj := List.mem_range.mp (List.mem_of_find?_eq_some q)
              dsimp only
              refine inv_put ?_
              obtain ⟨C, hC⟩ : ∃ C : Nat, C = (wg W 101 m).toNat := ⟨_, rfl⟩
              have eC : wg W 101 m = (C : Int) := by omega
              rw [← hC, eC]
              have g : ∀ k' s', wg (wset (wset (wsL (wset W 104 (32 * m + j) 1) 102 (256 * m + 16 * C) ((L.map kpW).take (wg W 97 m).toNat)) 103 (16 * m + C) (j : Int)) 101 m ((C : Int) + 1)) k' s' = if k' = 101 ∧ s' = m then (C : Int) + 1 else if k' = 103 ∧ s' = 16 * m + C then (j : Int) else if k' = 102 ∧ 256 * m + 16 * C ≤ s' ∧ s' < 256 * m + 16 * C + ((L.map kpW).take (wg W 97 m).toNat).length then ((L.map kpW).take (wg W 97 m).toNat).getD (s' - (256 * m + 16 * C)) 0 else if k' = 104 ∧ s' = 32 * m + j then 1 else wg W k' s' := fun k' s' => rfl
              obtain ⟨U, hU⟩ : ∃ U, U = (wset (wset (wsL (wset W 104 (32 * m + j) 1) 102 (256 * m + 16 * C) ((L.map kpW).take (wg W 97 m).toNat)) 103 (16 * m + C) (j : Int)) 101 m ((C : Int) + 1)) := ⟨_, rfl⟩
              rw [← hU] at g ⊢
              refine inv_m h hm (fun k' s' z => ?_) (fun s z => ?_) ?_ (fun s z => ?_) (fun e he => ?_) (fun s => ?_)
              · rw [g, if_neg (by omega), if_neg (by omega), if_neg (by omega), if_neg (by omega)]
              · rw [g, if_neg (by omega), if_neg (by omega), if_neg (by omega), if_neg (by omega)]
              · rw [g, if_pos ⟨rfl, rfl⟩]
                omega
              · rw [g, if_neg (by omega), if_neg (by omega), if_neg (by omega), if_neg (by omega)]
              · rw [g, if_pos ⟨rfl, rfl⟩] at he
                rw [g, if_neg (by omega)]
                by_cases z : e = C
                · rw [if_pos ⟨rfl, by rw [z]⟩]
                  omega
                · rw [if_neg (by omega), if_neg (by omega), if_neg (by omega)]
                  exact h.2.1 m e hm (by omega)
              · rw [g, if_neg (by omega), if_neg (by omega)]
                by_cases z : (102 : Nat) = 102 ∧ 256 * m + 16 * C ≤ s ∧ s < 256 * m + 16 * C + ((L.map kpW).take (wg W 97 m).toNat).length
                · rw [if_pos z]
                  exact take_in (by omega)
                · rw [if_neg z, if_neg (by omega)]
                  exact h.2.2.1 102 s (Or.inl rfl)
theorem inv_rem (h : invW W) (hm : m < 8) : invW (remR W m key y).1 := by
  have i1 := (h.1 m hm).1
  unfold remR
  by_cases c2 : wg W 96 m = 0
  · rw [if_pos c2]
    exact h
  · rw [if_neg c2]
    cases q : entR W m key with
    | none => exact h
    | some e =>
      have le := List.mem_range.mp (List.mem_of_find?_eq_some q)
      dsimp only
      obtain ⟨C, hC⟩ : ∃ C : Nat, C = (wg W 101 m - 1).toNat := ⟨_, rfl⟩
      have eC : wg W 101 m - 1 = (C : Int) := by omega
      rw [← hC, eC]
      obtain ⟨D, hD⟩ : ∃ D : Nat, D = 32 * m + (wg W 103 (16 * m + e)).toNat := ⟨_, rfl⟩
      rw [← hD]
      have g : ∀ k' s', wg (wmv (wmv (wset (wset (wset W 104 D y) 105 D y) 101 m (C : Int)) 103 (16 * m + e) (16 * m + C) 1) 102 (256 * m + 16 * e) (256 * m + 16 * C) 16) k' s' = if k' = 102 ∧ 256 * m + 16 * e ≤ s' ∧ s' < 256 * m + 16 * C then wg W 102 (s' + 16) else if k' = 103 ∧ 16 * m + e ≤ s' ∧ s' < 16 * m + C then wg W 103 (s' + 1) else if k' = 101 ∧ s' = m then (C : Int) else if k' = 105 ∧ s' = D then y else if k' = 104 ∧ s' = D then y else wg W k' s' := fun k' s' => rfl
      obtain ⟨U, hU⟩ : ∃ U, U = (wmv (wmv (wset (wset (wset W 104 D y) 105 D y) 101 m (C : Int)) 103 (16 * m + e) (16 * m + C) 1) 102 (256 * m + 16 * e) (256 * m + 16 * C) 16) := ⟨_, rfl⟩
      rw [← hU] at g ⊢
      refine inv_m h hm (fun k' s' z => ?_) (fun s z => ?_) ?_ (fun s z => ?_) (fun e' he => ?_) (fun s => ?_)
      · rw [g, if_neg (by omega), if_neg (by omega), if_neg (by omega), if_neg (by omega), if_neg (by omega)]
      · rw [g, if_neg (by omega), if_neg (by omega), if_neg (by omega), if_neg (by omega), if_neg (by omega)]
      · rw [g, if_neg (by omega), if_neg (by omega), if_pos ⟨rfl, rfl⟩]
        omega
      · rw [g, if_neg (by omega), if_neg (by omega), if_neg (by omega), if_neg (by omega), if_neg (by omega)]
      · rw [g, if_neg (by omega), if_neg (by omega), if_pos ⟨rfl, rfl⟩] at he
        rw [g, if_neg (by omega)]
        by_cases z : e ≤ e'
        · rw [if_pos ⟨rfl, by omega, by omega⟩, show 16 * m + e' + 1 = 16 * m + (e' + 1) by omega]
          exact h.2.1 m (e' + 1) hm (by omega)
        · rw [if_neg (by omega), if_neg (by omega), if_neg (by omega), if_neg (by omega)]
          exact h.2.1 m e' hm (by omega)
      · rw [g]
        by_cases z : (102 : Nat) = 102 ∧ 256 * m + 16 * e ≤ s ∧ s < 256 * m + 16 * C
        · rw [if_pos z]
          exact h.2.2.1 102 _ (Or.inl rfl)
        · rw [if_neg z, if_neg (by omega), if_neg (by omega), if_neg (by omega), if_neg (by omega)]
          exact h.2.2.1 102 s (Or.inl rfl)
/-! records -/
theorem cnt_1 {P Q : Nat → Bool} {i : Nat} (hP : ∀ j, ¬ j = i → Q j = P j) (h0 : P i = false) (h1 : Q i = true) : ∀ L : List Nat, L.Nodup → (i ∈ L → (L.filter Q).length = (L.filter P).length + 1) ∧ (¬ i ∈ L → (L.filter Q).length = (L.filter P).length) := by
  intro L
  induction L with
  | nil => intro _; exact ⟨fun z => absurd z (by simp), fun _ => rfl⟩
  | cons a L ih =>
    intro nd
    obtain ⟨n1, n2⟩ := List.nodup_cons.mp nd
    obtain ⟨i1, i2⟩ := ih n2
    rw [List.filter_cons, List.filter_cons]
    by_cases z : a = i
    · subst z
      refine ⟨fun _ => ?_, fun q => absurd (List.mem_cons_self) q⟩
      rw [h0, h1, if_pos rfl, if_neg (by decide), List.length_cons, i2 n1]
    · rw [hP a z]
      refine ⟨fun q => ?_, fun q => ?_⟩
      · have q := (List.mem_cons.mp q).resolve_left (fun y => z y.symm)
        by_cases y : P a = true
        · rw [if_pos y, if_pos y, List.length_cons, List.length_cons, i1 q]
        · rw [if_neg y, if_neg y, i1 q]
      · have q : ¬ i ∈ L := fun y => q (List.mem_cons_of_mem _ y)
        by_cases y : P a = true
        · rw [if_pos y, if_pos y, List.length_cons, List.length_cons, i2 q]
        · rw [if_neg y, if_neg y, i2 q]
/-- one record more is held -/
theorem hld_1 {i : Nat} (hi : i < 64) (e2 : ∀ s, ¬ s = i → wg V 152 s = wg W 152 s) (e1 : ∀ s, ¬ s = i → wg V 151 s = wg W 151 s) (z0 : wg W 152 i = 0) (z1 : ¬ wg V 152 i = 0) (hm : wg V 151 i = (n : Int)) : hldR V m = hldR W m + (if m = n then 1 else 0) := by
  unfold hldR
  by_cases q : m = n
  · rw [if_pos q]
    exact (cnt_1 (i := i) (fun j hj => by rw [e2 j hj, e1 j hj]) (decide_eq_false fun y => y.1 z0) (decide_eq_true ⟨z1, by rw [hm, q]⟩) _ List.nodup_range).1 (List.mem_range.mpr hi)
  · rw [if_neg q, Nat.add_zero]
    refine congrArg (fun p => (List.filter p (List.range 64)).length) ?_
    funext j
    by_cases ej : j = i
    · rw [ej, decide_eq_false (fun y => by rw [hm] at y; omega), decide_eq_false (fun y => y.1 z0)]
    · rw [e2 j ej, e1 j ej]
theorem inv_rec (h : invW W) (hm : m < 8) (hy : 1 ≤ y ∧ y ≤ 64) : invW (recR W (m : Int) y).1 := by
  unfold recR
  rw [Int.toNat_natCast]
  by_cases c1 : wg W 99 m ≤ wg W 107 m + (hldR W m : Int)
  · rw [if_pos c1]
    exact h
  · rw [if_neg c1]
    cases q : (List.range 64).find? fun i => decide (wg W 152 i = 0) with
    | none => exact h
    | some i =>
      dsimp only
      have li := List.mem_range.mp (List.mem_of_find?_eq_some q)
      have z0 : wg W 152 i = 0 := by simpa using List.find?_some q
      have g : ∀ k' s', wg (wsL (wset (wset (wset W 152 i 1) 151 i (m : Int)) 150 i y) 149 (64 * i) (List.replicate 64 0)) k' s' = if k' = 149 ∧ 64 * i ≤ s' ∧ s' < 64 * i + (List.replicate 64 (0 : Int)).length then (List.replicate 64 (0 : Int)).getD (s' - 64 * i) 0 else if k' = 150 ∧ s' = i then y else if k' = 151 ∧ s' = i then (m : Int) else if k' = 152 ∧ s' = i then 1 else wg W k' s' := fun k' s' => rfl
      obtain ⟨U, hU⟩ : ∃ U, U = (wsL (wset (wset (wset W 152 i 1) 151 i (m : Int)) 150 i y) 149 (64 * i) (List.replicate 64 0)) := ⟨_, rfl⟩
      rw [← hU] at g ⊢
      have e : ∀ k' s', ¬ (149 ≤ k' ∧ k' ≤ 152) → wg U k' s' = wg W k' s' := fun k' s' z => by
        rw [g, if_neg (by omega), if_neg (by omega), if_neg (by omega), if_neg (by omega)]
      have u2 : wg U 152 i = 1 := by rw [g, if_neg (by omega), if_neg (by omega), if_neg (by omega), if_pos ⟨rfl, rfl⟩]
      have u1 : wg U 151 i = (m : Int) := by rw [g, if_neg (by omega), if_neg (by omega), if_pos ⟨rfl, rfl⟩]
      have u0 : wg U 150 i = y := by rw [g, if_neg (by omega), if_pos ⟨rfl, rfl⟩]
      have o2 : ∀ s, ¬ s = i → wg U 152 s = wg W 152 s := fun s z => by rw [g, if_neg (by omega), if_neg (by omega), if_neg (by omega), if_neg (by omega)]
      have o1 : ∀ s, ¬ s = i → wg U 151 s = wg W 151 s := fun s z => by rw [g, if_neg (by omega), if_neg (by omega), if_neg (by omega), if_neg (by omega)]
      have o0 : ∀ s, ¬ s = i → wg U 150 s = wg W 150 s := fun s z => by rw [g, if_neg (by omega), if_neg (by omega), if_neg (by omega), if_neg (by omega)]
      refine ⟨fun j hj => ?_, fun j e' hj he => ?_, fun k' s' z => ?_, ?_, fun j hj z => ?_, fun j hj => ?_, fun j x hj hx => ?_⟩
      · rw [e 96 _ (by omega), e 97 _ (by omega), e 98 _ (by omega), e 99 _ (by omega), e 101 _ (by omega)]
        exact h.1 j hj
      · rw [e 101 _ (by omega)] at he
        rw [e 103 _ (by omega)]
        exact h.2.1 j e' hj he
      · rw [g]
        by_cases z1 : k' = 149 ∧ 64 * i ≤ s' ∧ s' < 64 * i + (List.replicate 64 (0 : Int)).length
        · rw [if_pos z1, List.getD_eq_getElem?_getD, List.getElem?_eq_getElem (by omega), List.getElem_replicate]
          decide
        · rw [if_neg z1, if_neg (by omega), if_neg (by omega), if_neg (by omega)]
          exact h.2.2.1 k' s' z
      · rw [e _ _ (by omega), e _ _ (by omega), e _ _ (by omega)]
        exact h.2.2.2.1
      · by_cases ej : j = i
        · rw [ej, u1, u0]
          omega
        · rw [o2 j ej] at z
          rw [o1 j ej, o0 j ej]
          exact h.2.2.2.2.1 j hj z
      · have := hld_1 (m := j) li o2 o1 z0 (by rw [u2]; decide) u1
        have i6 := h.2.2.2.2.2.1 j hj
        rw [this, e 107 _ (by omega), e 99 _ (by omega)]
        by_cases ej : j = m
        · rw [if_pos ej]
          subst ej
          omega
        · rw [if_neg ej]
          omega
      · rw [e _ _ (by omega)]
        exact h.2.2.2.2.2.2 j x hj hx
theorem inv_giv {i : Nat} {fl : Bool} (h : invW W) (hi : i < 64) (hh : ¬ wg W 152 i = 0) : invW (givR W i fl) := by
  have i5 := h.2.2.2.2.1 i hi hh
  obtain ⟨m, hm⟩ : ∃ m : Nat, m = (wg W 151 i).toNat := ⟨_, rfl⟩
  have em : wg W 151 i = (m : Int) := by omega
  have g0 : ∀ k' s', wg (wset W 152 i 0) k' s' = if k' = 152 ∧ s' = i then 0 else wg W k' s' := fun _ _ => rfl
  have hl : ∀ j, hldR W j = hldR (wset W 152 i 0) j + (if j = m then 1 else 0) := fun j => by
    refine hld_1 (i := i) hi (fun s z => ?_) (fun s z => ?_) ?_ hh em
    · rw [g0, if_neg (by omega)]
    · rw [g0, if_neg (by omega)]
    · rw [g0, if_pos ⟨rfl, rfl⟩]
  have ia : ∀ U : WR, (∀ k' s', ¬ (k' = 152 ∨ k' = 107 ∨ k' = 108 ∨ k' = 109) → wg U k' s' = wg W k' s') → (∀ s, wg U 152 s = wg (wset W 152 i 0) 152 s) → (∀ j, j < 8 → 0 ≤ wg U 107 j ∧ wg U 107 j + (hldR (wset W 152 i 0) j : Int) ≤ wg W 99 j) → invW U := fun U e e2 e7 => by
    have hu : ∀ j, hldR U j = hldR (wset W 152 i 0) j := fun j => hld_e e2 (fun s => by rw [e _ _ (by omega), g0, if_neg (by omega)])
    refine ⟨fun j hj => ?_, fun j e' hj he => ?_, fun k' s' z => ?_, ?_, fun j hj z => ?_, fun j hj => ?_, fun j x hj hx => ?_⟩
    · rw [e 96 _ (by omega), e 97 _ (by omega), e 98 _ (by omega), e 99 _ (by omega), e 101 _ (by omega)]
      exact h.1 j hj
    · rw [e 101 _ (by omega)] at he
      rw [e 103 _ (by omega)]
      exact h.2.1 j e' hj he
    · rw [e _ _ (by omega)]
      exact h.2.2.1 k' s' z
    · rw [e _ _ (by omega), e _ _ (by omega), e _ _ (by omega)]
      exact h.2.2.2.1
    · rw [e2, g0] at z
      by_cases q : (152 : Nat) = 152 ∧ j = i
      · rw [if_pos q] at z
        exact absurd rfl z
      · rw [if_neg q] at z
        rw [e _ _ (by omega), e _ _ (by omega)]
        exact h.2.2.2.2.1 j hj z
    · rw [hu, e 99 _ (by omega)]
      exact e7 j hj
    · rw [e _ _ (by omega)]
      exact h.2.2.2.2.2.2 j x hj hx
  unfold givR
  dsimp only
  cases fl with
  | false =>
    rw [if_pos rfl]
    refine ia _ (fun k' s' z => by rw [g0, if_neg (by omega)]) (fun _ => rfl) (fun j hj => ?_)
    have i6 := h.2.2.2.2.2.1 j hj
    have := hl j
    rw [g0, if_neg (by omega)]
    omega
  | true =>
    rw [if_neg (by decide), ← hm]
    have g : ∀ k' s', wg (wset (wsL (wset (wset W 152 i 0) 108 (16 * m + (wg W 107 m).toNat) (wg W 150 i)) 109 (1024 * m + 64 * (wg W 107 m).toNat) ((List.range (wg W 150 i).toNat).map fun j => wg W 149 (64 * i + j))) 107 m (wg W 107 m + 1)) k' s' = if k' = 107 ∧ s' = m then wg W 107 m + 1 else if k' = 109 ∧ 1024 * m + 64 * (wg W 107 m).toNat ≤ s' ∧ s' < 1024 * m + 64 * (wg W 107 m).toNat + ((List.range (wg W 150 i).toNat).map fun j => wg W 149 (64 * i + j)).length then ((List.range (wg W 150 i).toNat).map fun j => wg W 149 (64 * i + j)).getD (s' - (1024 * m + 64 * (wg W 107 m).toNat)) 0 else if k' = 108 ∧ s' = 16 * m + (wg W 107 m).toNat then wg W 150 i else wg (wset W 152 i 0) k' s' := fun k' s' => rfl
    refine ia _ (fun k' s' z => by rw [g, if_neg (by omega), if_neg (by omega), if_neg (by omega), g0, if_neg (by omega)]) (fun s => by rw [g, if_neg (by omega), if_neg (by omega), if_neg (by omega)]) (fun j hj => ?_)
    have i6 := h.2.2.2.2.2.1 j hj
    have := hl j
    rw [g]
    by_cases ej : j = m
    · subst ej
      rw [if_pos ⟨rfl, rfl⟩]
      rw [if_pos rfl] at this
      omega
    · rw [if_neg (by omega), if_neg (by omega), if_neg (by omega), g0, if_neg (by omega)]
      rw [if_neg ej] at this
      omega
theorem inv_tai {V : WR} (h : invW W) (e : taiR W m x = some V) : invW V := by
  unfold taiR at e
  split at e
  · cases e
  · split at e
    · cases e
    · rename_i q
      cases e
      have := h.2.2.2.1.2.2
      exact inv_80 (inv_80 h (Or.inr (Or.inr (Or.inr (Or.inr (Or.inl ⟨rfl, by omega⟩)))))) (Or.inr (Or.inr (Or.inl rfl)))
end RINV
