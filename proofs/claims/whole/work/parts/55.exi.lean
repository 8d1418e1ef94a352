/-! ===== THE WALK, as such: more that stays true ===== -/
/-- frames and TAGs behind an instruction -/
def frJ (S : ST) (t : Int) (r : JR) : Prop := (∀ n S', r.2.1 = some (n, S') → sF S' ≤ sF S) ∧ (∀ n S', r.2.2.1 = some (n, S') → sF S' ≤ sF S) ∧ r.2.2.2 ≤ t + 1
section FR
variable {S S1 S2 : ST} {E : EV} {t t' f n g : Int} {w w2 : B64} {i : Int}
theorem frJ_0 (h : t' ≤ t + 1) : frJ S t (f, none, none, t') := ⟨fun _ _ e => (by cases e), fun _ _ e => (by cases e), h⟩
theorem frJ_1 (h1 : sF S1 ≤ sF S) (h : t' ≤ t + 1) : frJ S t (f, some (n, S1), none, t') := ⟨fun _ _ e => by cases e; exact h1, fun _ _ e => (by cases e), h⟩
theorem frJ_2 (h1 : sF S1 ≤ sF S) (h2 : sF S2 ≤ sF S) (h : t' ≤ t + 1) : frJ S t (f, some (n, S1), some (g, S2), t') := ⟨fun _ _ e => by cases e; exact h1, fun _ _ e => by cases e; exact h2, h⟩
theorem frJ_w (h1 : sF S1 ≤ sF S) (h : t' ≤ t + 1) : frJ S t (wayJ f n S1 t') := by
  unfold wayJ
  split
  · exact frJ_1 h1 h
  · exact frJ_0 h
theorem shf_t {p : VL} {x : N6} {c : Int} : (shfV p x c t).2.2 ≤ t + 1 := by
  have a : t ≤ t + 1 := by omega
  unfold shfV
  repeat' split
  all_goals first | exact a | exact Int.le_refl _
theorem alu_t : (aluV S w t).2.2 ≤ t + 1 := by
  have a : t ≤ t + 1 := by omega
  unfold aluV
  repeat' split
  all_goals first | exact a | exact shf_t
theorem sto_F : sF (stoV E S w).2 ≤ sF S := by
  unfold stoV
  repeat' split
  all_goals exact Nat.le_refl _
theorem swp_F : sF (swpV E S w).2 ≤ sF S := by
  unfold swpV
  repeat' split
  all_goals exact Nat.le_refl _
theorem nrw_F {c : Int} {is : Bool} {x y : N6} : sF (nrwS S w c is x y) ≤ sF S := by
  unfold nrwS
  split
  all_goals exact Nat.le_refl _
theorem bec_F {k : Int} : sF (becZ S t k) ≤ sF S := by
  unfold becZ
  split
  all_goals exact Nat.le_refl _
theorem num_f : frJ S t (numJ S w g n t) := by
  have a : t ≤ t + 1 := by omega
  have b : sF S ≤ sF S := Nat.le_refl _
  unfold numJ
  repeat' split
  all_goals first | exact frJ_1 b a | exact frJ_2 b b a | exact frJ_2 nrw_F nrw_F a | exact frJ_1 nrw_F a | exact frJ_0 a
theorem rch_F {c x y : Int} {p q : Int} : sF (if c = x then allV S (rchV p q) else if c = y then allV S (rchV p (q + 1)) else S) ≤ sF S := by
  repeat' split
  all_goals exact Nat.le_refl _
theorem rch_f {p : VL} {c : Int} : frJ S t (rchJ S p c g n t) := by
  have a : t ≤ t + 1 := by omega
  refine frJ_2 ?_ ?_ a
  · repeat' split
    all_goals exact Nat.le_refl _
  · repeat' split
    all_goals exact Nat.le_refl _
theorem cmp_f : frJ S t (cmpJ S w g n t) := by
  have a : t ≤ t + 1 := by omega
  have b : sF S ≤ sF S := Nat.le_refl _
  unfold cmpJ
  repeat' split
  all_goals first | exact frJ_0 a | exact num_f | exact frJ_2 b bec_F a | exact frJ_2 bec_F b a | exact frJ_1 b a | exact rch_f
theorem exi_f : frJ S t (exiJ S t) := by
  have a : t ≤ t + 1 := by omega
  unfold exiJ
  repeat' split
  all_goals first | exact frJ_0 a | exact frJ_1 (Nat.sub_le _ _) a
theorem hlpS_F {h : Int} : sF (hlpS S h) ≤ sF S := by
  unfold hlpS
  repeat' split
  all_goals exact Nat.le_refl _
theorem hlp_f {h : Int} : frJ S t (hlpJ E S h n t) := by
  have a : t ≤ t + 1 := by omega
  have b : t + 1 ≤ t + 1 := Int.le_refl _
  have c : sF S ≤ sF S := Nat.le_refl _
  unfold hlpJ
  by_cases z : ¬ hlpF E S h = 0
  · rw [if_pos z]
    exact frJ_0 a
  · rw [if_neg z]
    by_cases h1 : h = 1
    · rw [if_pos h1]
      exact frJ_1 c b
    · rw [if_neg h1]
      by_cases h2 : h = 131
      · rw [if_pos h2]
        exact frJ_1 c b
      · rw [if_neg h2]
        exact frJ_1 hlpS_F a
theorem stp_f (hc : ¬ ((fOp w = 133 ∧ fS w = 1) ∧ ¬ sF S = 4)) : frJ S t (stpJ E S i w w2 t) := by
  have a : t ≤ t + 1 := by omega
  have b : sF S ≤ sF S := Nat.le_refl _
  unfold stpJ
  by_cases l0 : fL w = 0
  · rw [if_pos l0]
    by_cases s0 : fS w = 0
    · rw [if_pos s0]
      exact frJ_1 b a
    · rw [if_neg s0]
      split
      · exact frJ_0 a
      · exact frJ_1 b a
  · rw [if_neg l0]
    by_cases l4 : fL w = 4 ∨ fL w = 7
    · rw [if_pos l4]
      exact frJ_w b alu_t
    · rw [if_neg l4]
      by_cases l5 : fL w = 5 ∨ fL w = 6
      · rw [if_pos l5]
        by_cases c5 : fOp w = 5 ∨ fOp w = 6
        · rw [if_pos c5]
          exact frJ_1 b a
        · rw [if_neg c5]
          by_cases c149 : fOp w = 149
          · rw [if_pos c149]
            exact exi_f
          · rw [if_neg c149]
            by_cases c133 : fOp w = 133
            · rw [if_pos c133]
              by_cases s1 : fS w = 1
              · rw [if_pos s1]
                have f4 : sF S = 4 := Decidable.byContradiction fun q => hc ⟨⟨c133, s1⟩, q⟩
                unfold entJ
                rw [if_pos f4]
                exact frJ_0 a
              · rw [if_neg s1]
                exact hlp_f
            · rw [if_neg c133]
              exact cmp_f
      · rw [if_neg l5]
        by_cases l1 : fL w = 1
        · rw [if_pos l1]
          exact frJ_w b a
        · rw [if_neg l1]
          split
          · exact frJ_w swp_F a
          · exact frJ_w sto_F a
/-- a FUNCTION -/
theorem stp_e (hc : (fOp w = 133 ∧ fS w = 1) ∧ ¬ sF S = 4) : stpJ E S i w w2 t = (0, some (goal i w, (sF S + 1, (fun k => if 26 * sF S + 1 ≤ k ∧ k ≤ 26 * sF S + 5 then sV S (k - 26) else clrF S (sF S) k), (fun f => if f = sF S then (i + 1) else sB S f), sH S)), none, t) := by
  obtain ⟨⟨c133, s1⟩, f4⟩ := hc
  have l5 : fL w = 5 := by
    unfold fL
    omega
  unfold stpJ
  rw [if_neg (by omega), if_neg (by omega), if_pos (Or.inl l5), if_neg (by omega), if_neg (by omega), if_pos c133, if_pos s1]
  unfold entJ
  rw [if_neg f4]
theorem stp_t : (stpJ E S i w w2 t).2.2.2 ≤ t + 1 := by
  by_cases hc : (fOp w = 133 ∧ fS w = 1) ∧ ¬ sF S = 4
  · rw [stp_e hc]
    show t ≤ t + 1
    omega
  · exact (stp_f hc).2.2
theorem stp_2 {n g : Int} {S1 S2 : ST} (h1 : (stpJ E S i w w2 t).2.1 = some (n, S1)) (h2 : (stpJ E S i w w2 t).2.2.1 = some (g, S2)) : sF S1 ≤ sF S ∧ sF S2 ≤ sF S := by
  by_cases hc : (fOp w = 133 ∧ fS w = 1) ∧ ¬ sF S = 4
  · rw [stp_e hc] at h2
    cases h2
  · exact ⟨(stp_f hc).1 _ _ h1, (stp_f hc).2.1 _ _ h2⟩
/-- more that stays -/
def exI (w : WK) : Prop := (canS (yS w) ∧ (∀ k, k < yNn w → canS (kS (yH w k)) ∧ kF (yH w k) ≤ 4000) ∧ ∀ j, j < yM w → canS (wtS (yW w j))) ∧ (yM w ≤ 60 ∧ 0 ≤ yT w ∧ yT w ≤ yG w) ∧ (sF (yS w) : Int) ≤ w.2.2.2.2.1 ∧ ∀ j, j < yM w → (sF (wtS (yW w j)) : Int) ≤ w.2.2.2.2.1
theorem clo_same : ∀ (f : Nat) (K : Nat → KT) (k j : Nat), kS (cloK f K k j) = kS (K j) ∧ kA (cloK f K k j) = kA (K j) ∧ kB (cloK f K k j) = kB (K j) ∧ kF (cloK f K k j) = kF (K j) := by
  intro f
  induction f with
  | zero => intro K k j; exact ⟨rfl, rfl, rfl, rfl⟩
  | succ f ih =>
    intro K k j
    show kS ((if kW (K k) = 0 ∧ 0 ≤ kB (K k) then cloK f (ovrK K (kB (K k)).toNat (kF (K k) + kL (K k))) (kB (K k)).toNat else K) j) = _ ∧ kA ((if kW (K k) = 0 ∧ 0 ≤ kB (K k) then cloK f (ovrK K (kB (K k)).toNat (kF (K k) + kL (K k))) (kB (K k)).toNat else K) j) = _ ∧ kB ((if kW (K k) = 0 ∧ 0 ≤ kB (K k) then cloK f (ovrK K (kB (K k)).toNat (kF (K k) + kL (K k))) (kB (K k)).toNat else K) j) = _ ∧ kF ((if kW (K k) = 0 ∧ 0 ≤ kB (K k) then cloK f (ovrK K (kB (K k)).toNat (kF (K k) + kL (K k))) (kB (K k)).toNat else K) j) = _
    by_cases c : kW (K k) = 0 ∧ 0 ≤ kB (K k)
    · rw [if_pos c]
      obtain ⟨a1, a2, a3, a4⟩ := ih (ovrK K (kB (K k)).toNat (kF (K k) + kL (K k))) (kB (K k)).toNat j
      obtain ⟨b1, b2, b3, b4⟩ := ovr_same (K := K) (b := (kB (K k)).toNat) (n := kF (K k) + kL (K k)) j
      exact ⟨a1.trans b1, a2.trans b2, a3.trans b3, a4.trans b4⟩
    · rw [if_neg c]
      exact ⟨rfl, rfl, rfl, rfl⟩
theorem end_same (K : Nat → KT) (k : Nat) (n : Int) (j : Nat) : kS (endK K k n j) = kS (K j) ∧ kA (endK K k n j) = kA (K j) ∧ kB (endK K k n j) = kB (K j) ∧ kF (endK K k n j) = kF (K j) := by
  obtain ⟨a1, a2, a3, a4⟩ := clo_same 250 (ovrK K k n) k j
  obtain ⟨b1, b2, b3, b4⟩ := ovr_same (K := K) (b := k) (n := n) j
  exact ⟨a1.trans b1, a2.trans b2, a3.trans b3, a4.trans b4⟩
/-- the way is over: the last one that waits -/
theorem exI_pop {w : WK} (h : exI w) {K : Nat → KT} (hK : ∀ j, kS (K j) = kS (yH w j) ∧ kF (K j) = kF (yH w j)) {S' : ST} {a f t' g' x1 x2 : Int} {k : Nat} {x3 : Int → Option ST} (hM : ¬ yM w = 0) (ht : 0 ≤ t' ∧ t' ≤ g') (hx : w.2.2.2.2.1 ≤ x2) : exI (popK ((S', a, k, f, g', t'), (yNn w, K), (yM w, yW w), x1, x2, x3)) := by
  obtain ⟨⟨h1, h2, h3⟩, ⟨h4, h5, h6⟩, h7, h8⟩ := h
  have l : yM w - 1 < yM w := by omega
  refine ⟨⟨h3 _ l, fun k hk => ?_, fun j hj => ?_⟩, ⟨?_, ht.1, ht.2⟩, ?_, fun j hj => ?_⟩
  · obtain ⟨e1, e2⟩ := hK k
    show canS (kS (K k)) ∧ kF (K k) ≤ 4000
    rw [e1, e2]
    exact h2 k hk
  · have hj : j < yM w - 1 := hj
    exact h3 j (by omega)
  · show yM w - 1 ≤ 60
    omega
  · exact Int.le_trans (h8 _ l) hx
  · have hj : j < yM w - 1 := hj
    exact Int.le_trans (h8 j (by omega)) hx
theorem ins_x {p : Int → B64} {w : WK} (h : exI w) (ho : okS E (yT w) (yS w)) (hG : 0 ≤ yG w) (hw : okI (p (yA w)) (p (yA w + 1))) (hE : okE E) (h0 : (insK E p w).1 = 0) : ((insK E p w).2.1 = false → exI (insK E p w).2.2) ∧ ((insK E p w).2.1 = true → ¬ yM (insK E p w).2.2 = 0 → exI (popK (insK E p w).2.2)) := by
  have h' := h
  obtain ⟨⟨h1, h2, h3⟩, ⟨h4, h5, h6⟩, h7, h8⟩ := h'
  revert h0
  unfold insK
  by_cases c : yG w = 4000
  · rw [if_pos c]
    intro q
    exact absurd q (by show ¬ (12 : Int) = 0; decide)
  · rw [if_neg c]
    by_cases z : (stpJ E (yS w) (yA w) (p (yA w)) (p (yA w + 1)) (yT w)).1 = 0
    · have ca := stp_can (i := yA w) h1 ho hw
      have ok := stp_ok (i := yA w) hE ho hw z
      have st := stp_t (E := E) (S := yS w) (i := yA w) (w := p (yA w)) (w2 := p (yA w + 1)) (t := yT w)
      have s2 := fun n g S1 S2 => stp_2 (E := E) (S := yS w) (i := yA w) (w := p (yA w)) (w2 := p (yA w + 1)) (t := yT w) (n := n) (g := g) (S1 := S1) (S2 := S2)
      simp only [z, not_true_eq_false, if_false]
      generalize stpJ E (yS w) (yA w) (p (yA w)) (p (yA w + 1)) (yT w) = r at *
      obtain ⟨rf, ra, rb, rt⟩ := r
      have st : rt ≤ yT w + 1 := st
      have ot : yT w ≤ rt := ok.1
      rcases ra with _ | ⟨n, S1⟩
      · intro _
        refine ⟨fun q => (by cases q), fun _ m0 => ?_⟩
        have m0 : ¬ yM w = 0 := m0
        exact exI_pop h (fun j => ⟨(end_same _ _ _ j).1, (end_same _ _ _ j).2.2.2⟩) m0 ⟨by omega, by omega⟩ (Int.le_refl _)
      · have ca1 : canS S1 := ca.1 _ _ rfl
        rcases rb with _ | ⟨g, S2⟩
        · intro _
          refine ⟨fun _ => ⟨⟨ca1, h2, h3⟩, ⟨h4, by show 0 ≤ rt; omega, by show rt ≤ yG w + 1; omega⟩, ?_, fun j hj => ?_⟩, fun q => (by cases q)⟩
          · exact Int.le_max_right _ _
          · exact Int.le_trans (h8 j hj) (Int.le_max_left _ _)
        · have ca2 : canS S2 := ca.2 _ _ rfl
          obtain ⟨f1, f2⟩ := s2 n g S1 S2 rfl rfl
          by_cases m60 : yM w = 60
          · simp only [m60, if_true]
            intro q
            exact absurd q (by decide)
          · simp only [m60, if_false]
            intro _
            refine ⟨fun _ => ⟨⟨ca1, fun k hk => ?_, fun j hj => ?_⟩, ⟨by show yM w + 1 ≤ 60; omega, by show 0 ≤ rt; omega, by show rt ≤ yG w + 1; omega⟩, ?_, fun j hj => ?_⟩, fun q => (by cases q)⟩
            · show canS (kS (upK (yH w) (yK w) _ k)) ∧ kF (upK (yH w) (yK w) _ k) ≤ 4000
              unfold upK
              by_cases e : k = yK w
              · rw [if_pos e, ← e]
                exact h2 k hk
              · rw [if_neg e]
                exact h2 k hk
            · have hj : j < yM w + 1 := hj
              show canS (wtS (if j = yM w then (S2, g, yK w, yF w + 1) else yW w j))
              by_cases e : j = yM w
              · rw [if_pos e]
                exact ca2
              · rw [if_neg e]
                exact h3 j (by omega)
            · show (sF S1 : Int) ≤ w.2.2.2.2.1
              omega
            · have hj : j < yM w + 1 := hj
              show (sF (wtS (if j = yM w then (S2, g, yK w, yF w + 1) else yW w j)) : Int) ≤ w.2.2.2.2.1
              by_cases e : j = yM w
              · rw [if_pos e]
                show (sF S2 : Int) ≤ w.2.2.2.2.1
                omega
              · rw [if_neg e]
                exact h8 j (by omega)
    · simp only [z, not_false_eq_true, if_true]
      intro q
      exact q.elim
theorem mee_x {w : WK} (h : exI w) (hF : yF w ≤ 4000) (h0 : (meeK w).1 = 0) : ((meeK w).2.1 = false → exI (meeK w).2.2 ∧ yT (meeK w).2.2 = yT w ∧ yS (meeK w).2.2 = yS w ∧ yA (meeK w).2.2 = yA w ∧ yG (meeK w).2.2 = yG w) ∧ ((meeK w).2.1 = true → ¬ yM (meeK w).2.2 = 0 → exI (popK (meeK w).2.2)) := by
  have h' := h
  obtain ⟨⟨h1, h2, h3⟩, ⟨h4, h5, h6⟩, h7, h8⟩ := h'
  revert h0
  unfold meeK
  split
  · rename_i k hk
    split
    · intro q
      exact absurd q (by show ¬ (11 : Int) = 0; decide)
    · intro _
      refine ⟨fun q => (by cases q), fun _ m0 => ?_⟩
      exact exI_pop (w := w) h (fun j => ⟨(end_same _ _ _ j).1, (end_same _ _ _ j).2.2.2⟩) m0 ⟨h5, h6⟩ (Int.le_refl _)
  · split
    · intro q
      exact absurd q (by show ¬ (12 : Int) = 0; decide)
    · intro _
      refine ⟨fun _ => ⟨⟨⟨h1, fun k hk => ?_, h3⟩, ⟨h4, h5, h6⟩, h7, h8⟩, rfl, rfl, rfl, rfl⟩, fun q => (by cases q)⟩
      have hk : k < yNn w + 1 := hk
      show canS (kS (upK (yH w) (yNn w) _ k)) ∧ kF (upK (yH w) (yNn w) _ k) ≤ 4000
      unfold upK
      by_cases e : k = yNn w
      · rw [if_pos e]
        exact ⟨h1, hF⟩
      · rw [if_neg e]
        exact h2 k (by omega)
end FR
