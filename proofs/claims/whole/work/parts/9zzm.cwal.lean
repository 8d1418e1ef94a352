/-! ===== the class's plain code: an instruction, whole ===== -/
section CWAL
variable {σ τ ρ υ ω : MS} {w w2 X Y v : B64} {m n f i j s t N K P Q d e x x' o b r p z : Nat} {c c' c1 : TC WR} {φ ψ : Nat → Nat} {st : Nat → Int} {L : List Q4} {u : SV} {E : EV} {pw : Nat → B64}
theorem w1_all (h : RelC σ φ (bm st c)) (hb : bOk σ) (hI : invW (cW c)) (Ce : CEO σ E) (hE : okE E) (hR : okRow E) (W : wdC σ s K N st P (wQ pw n p P)) (hP : cP c = (p : Int)) (hw : pw p = w) (hw2 : pw (p + 1) = w2)
    (sp : spn pw n p = 1 ∧ okPl w ∨ spn pw n p = 2 ∧ p + 1 < n ∧ okPr w w2) (hg : (fL w = 5 ∨ fL w = 6) → ¬ fOp w = 149 → (fOp w = 133 → fS w = 1) → 0 ≤ goal (p : Int) w ∧ goal (p : Int) w < (n : Int))
    (nx : ¬ (fOp w = 149 ∨ fOp w = 5 ∨ fOp w = 6) → st (p + spn pw n p) = ((P + (wQ pw n p P).length : Nat) : Int))
    (e : stpT RB RH E (cP c, cN c, cR c, cS c, cB c, RT (cW c)) w w2 = some (z, c')) : ∃ k τ ψ, (1 ≤ k ∧ k ≤ 6) ∧ trs k σ τ ∧ stq1 st σ τ ψ (cP c, cN c, cR c, cS c, cB c, RT (cW c)) z c' := by
  have fr := fld_rng w
  unfold stpT at e
  rcases sp with ⟨s1, opl⟩ | ⟨s2, il, opr⟩
  · have opl' := opl
    have l0 : ¬ fL w = 0 := fun y => by
      unfold okPl at opl
      rw [if_pos y] at opl
      exact opl
    have eW : wQ pw n p P = worQ w (tgC n p w) P := by
      unfold wQ
      rw [if_neg (by omega), hw]
    rw [eW] at W nx
    rw [s1] at nx
    have eP : (cP c + 1).toNat = p + 1 := by omega
    unfold okPl at opl'
    rw [if_neg l0] at e opl'
    unfold worQ at W nx
    by_cases l47 : fL w = 4 ∨ fL w = 7
    · rw [if_pos l47] at e opl'
      rw [if_neg (by omega), if_neg (by omega), if_neg (by omega), if_neg (by omega)] at W nx
      have n149 : ¬ (fOp w = 149 ∨ fOp w = 5 ∨ fOp w = 6) := by
        have : fL w = fOp w % 8 := rfl
        omega
      have nx := nx n149
      rw [← eP] at nx
      cases ea : alT (cP c, cN c, cR c, cS c, cB c, RT (cW c)) w with
      | none =>
        rw [ea] at e
        cases e
      | some u =>
        rw [ea] at e
        cases e
        obtain ⟨τ, t, q⟩ := w1_A h W l47 opl' nx ea
        have a6 := aluQ_l (w := w)
        refine ⟨(aluQ w).length, τ, φ, ⟨?_, a6⟩, t, q⟩
        cases hh : aluQ w with
        | nil =>
          have hh' : (aluQ w).length = 0 := by rw [hh]; rfl
          have := (aluQ_v (w := w) (g := fun r => 0#64) l47 opl')
          exfalso
          unfold aluQ ordQ at hh
          revert hh
          repeat' split
          all_goals simp
        | cons a l => exact Nat.succ_le_succ (Nat.zero_le _)
    · rw [if_neg l47] at e opl'
      by_cases l56 : fL w = 5 ∨ fL w = 6
      · rw [if_pos l56] at e opl'
        rw [if_neg (by omega), if_neg (by omega), if_neg (by omega), if_pos l56] at W nx
        unfold jmpQ at W nx
        have tg : ¬ fOp w = 149 → (fOp w = 133 → fS w = 1) → tgC n p w = goal (p : Int) w ∧ ¬ goal (p : Int) w < 0 := fun a1 a2 => by
          have g := hg l56 a1 a2
          unfold tgC
          rw [if_pos g]
          exact ⟨rfl, by omega⟩
        have pg : goal (cP c) w = goal (p : Int) w := by rw [hP]
        by_cases j56 : fOp w = 5 ∨ fOp w = 6
        · rw [if_pos j56] at e
          cases e
          obtain ⟨t1, t2⟩ := tg (by omega) (by omega)
          rw [t1, if_neg (by omega), if_neg (by omega), if_neg t2, if_neg (by omega), if_pos j56] at W
          obtain ⟨τ, t, q⟩ := w1_G h W
          rw [pg]
          exact ⟨1, τ, φ, by decide, t, q⟩
        · rw [if_neg j56] at e
          by_cases j149 : fOp w = 149
          · rw [if_pos j149] at e W
            obtain ⟨τ, t, q⟩ := w1_E h hI W e
            exact ⟨1, τ, φ, by decide, t, q⟩
          · rw [if_neg j149] at e W nx
            have nx := nx (by omega)
            rw [← eP] at nx
            by_cases j133 : fOp w = 133
            · rw [if_pos j133] at e
              by_cases s1 : fS w = 1
              · rw [if_pos s1] at e
                obtain ⟨t1, t2⟩ := tg j149 (fun _ => s1)
                rw [t1, if_neg (by omega), if_neg t2, if_pos j133] at W nx
                by_cases n4 : cN c = 4
                · have n4' : cN (cP c, cN c, cR c, cS c, cB c, RT (cW c)) = 4 := n4
                  rw [if_pos n4'] at e
                  cases e
                · have n4' : ¬ cN (cP c, cN c, cR c, cS c, cB c, RT (cW c)) = 4 := n4
                  rw [if_neg n4'] at e
                  cases e
                  obtain ⟨τ, t, q⟩ := w1_F h hI W n4 nx
                  rw [pg]
                  exact ⟨1, τ, φ, by decide, t, q⟩
              · rw [if_neg s1] at e
                have s0 : fS w = 0 := by
                  unfold okJmp at opl'
                  rw [if_neg (fun z => j56 (Or.inl z)), if_neg (fun z => j56 (Or.inr z)), if_pos j133] at opl'
                  rcases opl'.2 with q | q
                  · exact q.1
                  · exact absurd q s1
                rw [if_pos ⟨j133, s0⟩] at W nx
                obtain ⟨τ, ψ, t, q⟩ := w1_H h hb hI Ce hE hR W nx e
                exact ⟨1, τ, ψ, by decide, t, q⟩
            · rw [if_neg j133] at e
              obtain ⟨t1, t2⟩ := tg j149 (fun y => absurd y j133)
              rw [t1, if_neg (by omega), if_neg t2, if_neg j133, if_neg j56] at W nx
              unfold okJmp at opl'
              rw [if_neg (fun z => j56 (Or.inl z)), if_neg (fun z => j56 (Or.inr z)), if_neg j133, if_neg j149] at opl'
              obtain ⟨⟨co, hd⟩, hr⟩ := opl'
              have hc : isCmp (fC w) := by
                have : fC w = fOp w / 16 * 16 := rfl
                unfold isCmpO at co
                unfold isCmp
                omega
              have hs : rgt w → fS w ≤ 10 := fun y => by
                rw [if_pos y] at hr
                exact hr.1
              cases ec : cmT (cP c, cN c, cR c, cS c, cB c, RT (cW c)) w with
              | none =>
                rw [ec] at e
                cases e
              | some b =>
                rw [ec] at e
                cases e
                obtain ⟨τ, t, q⟩ := w1_C h W l56 hc hd hs rfl nx ec
                rw [pg]
                have j4 := sidL_l (w := w)
                refine ⟨_, τ, φ, ⟨?_, ?_⟩, t, q⟩
                · rw [List.length_append]
                  have : 1 ≤ (if fL w = 6 then [@hafQ 11 (fD w) (sgnQ (fC w)) (Classical.propDecidable _), @hafQ 12 (sidR w) (sgnQ (fC w)) (Classical.propDecidable _), cnqQ (fC w) (goal (p : Int) w) 11 12] else [cnqQ (fC w) (goal (p : Int) w) (fD w) (sidR w)]).length := by
                    split
                    · exact (by decide : 1 ≤ 3)
                    · exact Nat.le_refl 1
                  omega
                · rw [List.length_append]
                  have : (if fL w = 6 then [@hafQ 11 (fD w) (sgnQ (fC w)) (Classical.propDecidable _), @hafQ 12 (sidR w) (sgnQ (fC w)) (Classical.propDecidable _), cnqQ (fC w) (goal (p : Int) w) 11 12] else [cnqQ (fC w) (goal (p : Int) w) (fD w) (sidR w)]).length ≤ 3 := by
                    split
                    · exact Nat.le_refl 3
                    · exact (by decide : 1 ≤ 3)
                  omega
      · rw [if_neg l56] at e opl'
        have n149 : ¬ (fOp w = 149 ∨ fOp w = 5 ∨ fOp w = 6) := by
          have : fL w = fOp w % 8 := rfl
          omega
        have nx := nx n149
        rw [← eP] at nx
        by_cases l1 : fL w = 1
        · rw [if_pos l1] at e W nx
          cases el : ldT RB RH (cP c, cN c, cR c, cS c, cB c, RT (cW c)) w with
          | none =>
            rw [el] at e
            cases e
          | some u =>
            rw [el] at e
            cases e
            obtain ⟨τ, t, q⟩ := w1_L h hI W opl' l1 nx el
            have l2 := lodQ_l (w := w)
            have l1' : 1 ≤ (lodQ w).length := by
              unfold lodQ
              rw [List.length_cons]
              omega
            exact ⟨_, τ, φ, ⟨l1', by omega⟩, t, q⟩
        · rw [if_neg l1] at e W nx
          by_cases x : fL w = 3 ∧ fM w = 192
          · rw [if_pos x] at e
            rw [if_neg (by omega), if_pos x.1] at W nx
            cases el : swT RB (cP c, cN c, cR c, cS c, cB c, RT (cW c)) w with
            | none =>
              rw [el] at e
              cases e
            | some c2 =>
              rw [el] at e
              cases e
              obtain ⟨k, τ, k6, t, q⟩ := w1_X h hI W opl' x.1 x.2 nx el
              exact ⟨k, τ, φ, k6, t, q⟩
          · rw [if_neg x] at e
            have h23 : fL w = 2 ∨ fL w = 3 := by
              have : fL w = fOp w % 8 := rfl
              omega
            have m96 : fM w = 96 := by
              have q := opl'
              unfold okMem at q
              rcases h23 with l | l
              · rw [if_neg l1, if_pos l] at q
                exact q.1
              · rw [if_neg l1, if_neg (by omega)] at q
                by_cases m : fM w = 96
                · exact m
                · rw [if_neg m] at q
                  exfalso
                  have m2 : fM w = 192 := by
                    have z1 : fM w = fOp w / 32 * 32 := rfl
                    omega
                  exact x ⟨l, m2⟩
            cases el : stoT RB RH (cP c, cN c, cR c, cS c, cB c, RT (cW c)) w with
            | none =>
              rw [el] at e
              cases e
            | some c2 =>
              rw [el] at e
              cases e
              have eL : (if fL w = 2 then [setQ 11 (fI w), memQ 19 w (fD w) 11] else if fL w = 3 then stoQ w P else if fL w = 5 ∨ fL w = 6 then jmpQ w (tgC n p w) else aluQ w) = if fL w = 2 then [setQ 11 (fI w), memQ 19 w (fD w) 11] else [memQ 19 w (fD w) (fS w)] := by
                by_cases l2 : fL w = 2
                · rw [if_pos l2, if_pos l2]
                · rw [if_neg l2, if_neg l2, if_pos (by omega)]
                  unfold stoQ
                  rw [if_pos m96]
              have nx' := nx
              have W' := W
              obtain ⟨τ, t, q⟩ := w1_S h hI W' opl' h23 m96 eL nx' el
              refine ⟨_, τ, φ, ⟨?_, ?_⟩, t, q⟩
              · rw [eL]
                split
                · exact (by decide : 1 ≤ 2)
                · exact Nat.le_refl 1
              · rw [eL]
                split
                · exact (by decide : 2 ≤ 6)
                · exact (by decide : 1 ≤ 6)
  · have eW : wQ pw n p P = parQ w w2 := by
      unfold wQ
      rw [if_pos s2, hw, hw2]
    rw [eW] at W nx
    rw [s2] at nx
    have l0 : fL w = 0 := by
      have : fL w = fOp w % 8 := rfl
      have := opr.1.1
      omega
    rw [if_pos l0] at e
    have nx := nx (by have := opr.1.1; omega)
    have eP : (cP c + 2).toNat = p + 2 := by omega
    rw [← eP] at nx
    obtain ⟨τ, t, q⟩ := w1_P h W opr nx
    have n1 : (parQ w w2).length = 1 := by
      unfold parQ
      split <;> rfl
    refine ⟨_, τ, φ, ⟨by rw [n1]; exact Nat.le_refl 1, by rw [n1]; decide⟩, t, ?_⟩
    by_cases s0 : fS w = 0
    · rw [if_pos s0] at e q
      cases e
      exact q
    · rw [if_neg s0] at e q
      cases e
      exact q
end CWAL
