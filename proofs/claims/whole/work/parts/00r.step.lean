/-! ===== a step: what the judge says is so ===== -/
section SP
variable {W : Type} {B : WB W} {E : EV} {th : Int → Nat} {tp : Int → B64} {S : ST} {c : TC W} {t : Int}
/-- a word that is an instruction, w2 the next one -/
abbrev okI (w w2 : B64) : Prop := (fL w = 0 ∧ okPr w w2) ∨ okPl w
theorem resG_way {S' : ST} {n : Int} {c' : TC W} (g : gS B E th tp S' c') (h : cP c' = n) : resG B E (0, some (n, S'), none, t) (some (0, c')) := ⟨0, c', rfl, Or.inl ⟨rfl, Or.inl (wayG_1 h g)⟩⟩
theorem stp_g {H : WH W} (hB : okB B) (hH : okH B H) (hE : okE E) (g : gS B E th tp S c) (ho : okS E t S) {w w2 : B64} {i : Int} (hw : okI w w2) (hi : cP c = i) (hf : (stpJ E S i w w2 t).1 = 0) : resG B E (stpJ E S i w w2 t) (stpT B H E c w w2) ∧ resO E t (stpJ E S i w w2 t) := by
  have f := fld_rng w
  have nr0 : ∀ (S' : ST) (n : N6), vk (numV n) = 9 ∨ vk (numV n) = 10 → ∃ k, k < 26 * sF S' ∧ vk (sV S' k) = vk (numV n) ∧ vt (sV S' k) = vt (numV n) := fun S' n q => by have k1 : vk (numV n) = 1 := rfl; exfalso; omega
  subst hi
  unfold stpJ at hf ⊢
  unfold stpT
  by_cases l0 : fL w = 0
  · rw [if_pos l0] at hf ⊢
    rw [if_pos l0]
    have hp : okPr w w2 := by
      rcases hw with hw | hw
      · exact hw.2
      · exfalso
        have : okPl w := hw
        unfold okPl at this
        rw [if_pos l0] at this
        exact this
    obtain ⟨⟨_, d9, _⟩, hp2⟩ := hp
    by_cases s0 : fS w = 0
    · rw [if_pos s0, if_pos s0]
      exact ⟨resG_way (goT_g (wV_g g ho (dR_9 d9) (gV_num (inN_cst _))) _) rfl, Int.le_refl _, wayO_1 (wV_ok ho (Int.le_refl _) (dR_9 d9) okV_num (nr0 _ _)), wayO_0⟩
    · rw [if_neg s0] at hf ⊢
      rw [if_neg s0]
      split at hf
      · exfalso; have hf : (15 : Int) = 0 := hf; omega
      · rename_i e0
        rw [if_neg e0]
        have i7 : 0 ≤ fI w ∧ fI w ≤ 7 := by omega
        have k1 : vk (mkV 4 (fI w) 0) = 4 := rfl
        have okm : okV E (sF S - 1) t (mkV 4 (fI w) 0) := by
          refine ⟨by omega, ?_, ?_, fun _ => ⟨i7.1, i7.2, by show 0 ≤ E.1 (fI w).toNat; omega⟩, ?_, ?_, ?_, ?_, ?_, ?_⟩
          all_goals (intro e; exfalso; omega)
        exact ⟨resG_way (goT_g (wV_g g ho (dR_9 d9) (mk_4 (v := mkV 4 (fI w) 0) rfl rfl)) _) rfl, Int.le_refl _, wayO_1 (wV_ok ho (Int.le_refl _) (dR_9 d9) okm (no_rec (by decide))), wayO_0⟩
  · rw [if_neg l0] at hf ⊢
    rw [if_neg l0]
    have hw : okPl w := by
      rcases hw with hw | hw
      · exact absurd hw.1 l0
      · exact hw
    unfold okPl at hw
    rw [if_neg l0] at hw
    by_cases l4 : fL w = 4 ∨ fL w = 7
    · rw [if_pos l4] at hf ⊢ hw
      rw [if_pos l4]
      unfold wayJ at hf ⊢
      by_cases z : (aluV S w t).1 = 0
      · rw [if_pos z]
        obtain ⟨s, e, tp', a1, a2, a3, a4, a5⟩ := alu_g g ho hw z
        rw [e]
        simp only
        exact ⟨resG_way (goT_g (wV_g a2 ho (dR_9 hw.1.1) a3) _) rfl, a1, wayO_1 (wV_ok ho a1 (dR_9 hw.1.1) a4 a5), wayO_0⟩
      · rw [if_neg z] at hf
        exact absurd hf z
    · rw [if_neg l4] at hf ⊢ hw
      rw [if_neg l4]
      by_cases l5 : fL w = 5 ∨ fL w = 6
      · rw [if_pos l5] at hf ⊢ hw
        rw [if_pos l5]
        unfold okJmp at hw
        by_cases j1 : fOp w = 5 ∨ fOp w = 6
        · rw [if_pos j1, if_pos j1]
          exact ⟨resG_way (goT_g g _) rfl, Int.le_refl _, wayO_1 ho, wayO_0⟩
        · rw [if_neg j1] at hf ⊢
          rw [if_neg j1]
          rw [if_neg (fun e => j1 (Or.inl e)), if_neg (fun e => j1 (Or.inr e))] at hw
          by_cases j2 : fOp w = 149
          · rw [if_pos j2] at hf ⊢
            rw [if_pos j2]
            exact exi_j g ho hf
          · rw [if_neg j2] at hf ⊢
            rw [if_neg j2]
            by_cases j3 : fOp w = 133
            · rw [if_pos j3] at hf ⊢
              rw [if_pos j3]
              by_cases s1 : fS w = 1
              · rw [if_pos s1] at hf ⊢
                rw [if_pos s1]
                obtain ⟨n4, wg, ro⟩ := ent_j g ho hf
                rw [if_neg n4]
                exact ⟨⟨0, _, rfl, Or.inl ⟨rfl, Or.inl wg⟩⟩, ro⟩
              · rw [if_neg s1] at hf ⊢
                rw [if_neg s1]
                exact hlp_jG hB hH hE g ho hf
            · rw [if_neg j3] at hf ⊢
              rw [if_neg j3]
              rw [if_neg j3, if_neg j2] at hw
              have hr : rgt w → fS w ≤ 10 := fun r => by
                have := hw.2
                rw [if_pos r] at this
                exact this.1
              obtain ⟨b, b1, b2, b3⟩ := cmp_j hB g ho ⟨hw.1.2, hr⟩ (isCmp_of hw.1.1) hf
              rw [b1]
              exact ⟨⟨0, _, rfl, Or.inl ⟨rfl, b2⟩⟩, b3⟩
      · rw [if_neg l5] at hf ⊢ hw
        rw [if_neg l5]
        unfold okMem at hw
        by_cases l1 : fL w = 1
        · rw [if_pos l1] at hf ⊢ hw
          rw [if_pos l1]
          unfold wayJ at hf ⊢
          by_cases z : (lodV E S w).1 = 0
          · rw [if_pos z]
            obtain ⟨s, e, tp', a1, a2, a3, a4, a5⟩ := lod_g hB hH.1 g ho ⟨hw.1, hw.2.2.1⟩ l1 z
            rw [e]
            simp only
            exact ⟨resG_way (goT_g (wV_g a2 ho (dR_9 hw.2.1) a3) _) rfl, a1, wayO_1 (wV_ok ho a1 (dR_9 hw.2.1) a4 a5), wayO_0⟩
          · rw [if_neg z] at hf
            exact absurd hf z
        · rw [if_neg l1] at hf ⊢ hw
          rw [if_neg l1]
          by_cases m : fL w = 3 ∧ fM w = 192
          · rw [if_pos m] at hf ⊢
            rw [if_pos m]
            rw [if_neg (by omega), if_neg (by omega)] at hw
            unfold wayJ at hf ⊢
            by_cases z : (swpV E S w).1 = 0
            · rw [if_pos z]
              obtain ⟨c', e, e2, a1, a2⟩ := swp_g hB g ho (w := w) ⟨hw.1.2, by omega, by omega⟩ z
              rw [e]
              simp only
              exact ⟨resG_way (goT_g a1 _) rfl, Int.le_refl _, wayO_1 a2, wayO_0⟩
            · rw [if_neg z] at hf
              exact absurd hf z
          · rw [if_neg m] at hf ⊢
            rw [if_neg m]
            have fl : fL w = 2 ∨ fL w = 3 := by
              have : 0 ≤ fL w ∧ fL w < 8 := by unfold fL; omega
              omega
            have wv : fD w ≤ 10 ∧ (fL w = 3 → fS w ≤ 10) := by
              by_cases l2 : fL w = 2
              · rw [if_pos l2] at hw
                exact ⟨hw.2.1, fun e => by omega⟩
              · rw [if_neg l2] at hw
                have m96 : fM w = 96 := by
                  refine Decidable.byContradiction fun e => m ⟨by omega, ?_⟩
                  rw [if_neg e] at hw
                  unfold fM
                  omega
                rw [if_pos m96] at hw
                exact ⟨hw.1, fun _ => hw.2.1⟩
            unfold wayJ at hf ⊢
            by_cases z : (stoV E S w).1 = 0
            · rw [if_pos z]
              obtain ⟨c', e, e2, a1, a2⟩ := sto_g (H := H) hB hH.2.1 g ho wv z
              rw [e]
              simp only
              exact ⟨resG_way (goT_g a1 _) rfl, Int.le_refl _, wayO_1 a2, wayO_0⟩
            · rw [if_neg z] at hf
              exact absurd hf z
end SP
