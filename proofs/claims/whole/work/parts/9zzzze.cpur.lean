/-! ===== what a WHERE's word is like (pure) ===== -/
section CPU
variable {t : Nat → Int} {T : Nat → TK} {n i j k m l M : Nat} {c d e o w x y z a r op f im : Int} {v Y : B64} {q : SR × Nat}
theorem wh_q {q : (Option Nat × B64) × Nat} (h : pWh t T Y k = .inr q) (hj : q.1.1 = some j) : q.1.2 = 0#64 ∧ j < q.2 := by
  unfold pWh at h
  rcases ite_or h with ⟨_, h⟩ | ⟨_, h⟩
  · rcases ite_or h with ⟨_, h⟩ | ⟨_, h⟩
    · cases h
    · have e := Sum.inr.inj h
      rw [← e] at hj ⊢
      have := Option.some.inj hj
      exact ⟨rfl, by show j < k + 1; omega⟩
  · rcases ite_or h with ⟨_, h⟩ | ⟨_, h⟩
    · obtain ⟨p, _, h2⟩ := bS_inr h
      rw [← Sum.inr.inj h2] at hj
      cases hj
    · cases h
theorem pln_n (h : pPln t T r x k = .inr q) : q.1.2.2 = none := by
  unfold pPln at h
  rcases ite_or h with ⟨_, h⟩ | ⟨_, h⟩
  · cases h
  · rcases ite_or h with ⟨_, h⟩ | ⟨_, h⟩
    · rcases ite_or h with ⟨_, h⟩ | ⟨_, h⟩
      · cases h
      · have e := Sum.inr.inj h
        rw [← e]
    · rcases ite_or h with ⟨_, h⟩ | ⟨_, h⟩
      · cases h
      · have e := Sum.inr.inj h
        rw [← e]
theorem val_n (h : pVal t T r k = .inr q) : q.1.2.2 = none := by
  unfold pVal at h
  rcases ite_or h with ⟨_, h⟩ | ⟨_, h⟩
  · obtain ⟨p, _, h2⟩ := bS_inr h
    rw [← Sum.inr.inj h2]
  · rcases ite_or h with ⟨_, h⟩ | ⟨_, h⟩
    · exact pln_n h
    · rcases ite_or h with ⟨_, h⟩ | ⟨_, h⟩
      · rcases ite_or h with ⟨_, h⟩ | ⟨_, h⟩
        · rcases ite_or h with ⟨_, h⟩ | ⟨_, h⟩
          · cases h
          · rw [← Sum.inr.inj h]
        · exact pln_n h
      · rcases ite_or h with ⟨_, h⟩ | ⟨_, h⟩
        · rcases ite_or h with ⟨_, h⟩ | ⟨_, h⟩
          · cases h
          · rcases ite_or h with ⟨_, h⟩ | ⟨_, h⟩
            · cases h
            · obtain ⟨p, _, h2⟩ := bS_inr h
              rw [← Sum.inr.inj h2]
        · rcases ite_or h with ⟨_, h⟩ | ⟨_, h⟩
          · obtain ⟨p, _, h2⟩ := bS_inr h
            rw [← Sum.inr.inj h2]
          · rcases ite_or h with ⟨_, h⟩ | ⟨_, h⟩
            · obtain ⟨p, _, h2⟩ := bS_inr h
              rw [← Sum.inr.inj h2]
            · rcases ite_or h with ⟨_, h⟩ | ⟨_, h⟩
              · cases h
              · rcases ite_or h with ⟨_, h⟩ | ⟨_, h⟩
                · cases h
                · rw [← Sum.inr.inj h]
theorem to_n (h : pTo t T k = .inr q) : q.1.2.2 = none := by
  unfold pTo at h
  rcases ite_or h with ⟨_, h⟩ | ⟨_, h⟩
  · exact val_n h
  · rcases ite_or h with ⟨_, h⟩ | ⟨_, h⟩
    · cases h
    · obtain ⟨p, _, h2⟩ := bS_inr h
      rw [← Sum.inr.inj h2]
theorem mem_n (h : pMem t T k = .inr q) : q.1.2.2 = none := by
  unfold pMem at h
  obtain ⟨p, _, h⟩ := bS_inr h
  rcases ite_or h with ⟨_, h⟩ | ⟨_, h⟩
  · cases h
  · rcases ite_or h with ⟨_, h⟩ | ⟨_, h⟩
    · obtain ⟨p, _, h2⟩ := bS_inr h
      rw [← Sum.inr.inj h2]
    · obtain ⟨p, _, h2⟩ := bS_inr h
      rw [← Sum.inr.inj h2]
theorem atm_n {g : Prop} {dg : Decidable g} (h : pAtm t T g dg x k = .inr q) : q.1.2.2 = none := by
  unfold pAtm at h
  obtain ⟨p, _, h⟩ := bS_inr h
  rcases ite_or h with ⟨_, h⟩ | ⟨_, h⟩
  · rcases ite_or h with ⟨_, h⟩ | ⟨_, h⟩
    · cases h
    · obtain ⟨p, _, h2⟩ := bS_inr h
      rw [← Sum.inr.inj h2]
  · obtain ⟨p, _, h2⟩ := bS_inr h
    rw [← Sum.inr.inj h2]
/-- a word with a WHERE's name: its place is empty -/
def whW (q : SR × Nat) (j : Nat) : Prop := j < q.2 ∧ q.1.2.1 = (0, 0, 0) ∧ 0 ≤ q.1.1.1 ∧ q.1.1.1 < 256 ∧ (wdO q.1.1.1 = 0 → q.1.1.2.2.2.1 = 0) ∧ (¬ wdO q.1.1.1 = 0 → q.1.1.2.2.2.2 = 0) ∧ (0 ≤ q.1.1.2.1 ∧ q.1.1.2.1 < 16) ∧ 0 ≤ q.1.1.2.2.1 ∧ q.1.1.2.2.1 < 16
theorem and15_b {a : Int} : 0 ≤ iAnd a 15 ∧ iAnd a 15 < 16 := by
  rw [iAnd15]
  omega
theorem pSid_s {q : (Int × Int × B64) × Nat} (h : pSid t T w j = .inr q) : 0 ≤ q.1.2.1 ∧ q.1.2.1 < 16 := by
  unfold pSid at h
  rcases ite_or h with ⟨_, h⟩ | ⟨_, h⟩
  · obtain ⟨p, hp, h2⟩ := bS_inr h
    unfold pRgt at hp
    rcases ite_or hp with ⟨_, hp⟩ | ⟨_, hp⟩
    · cases hp
    · rw [← Sum.inr.inj h2, ← Sum.inr.inj hp]
      exact and15_b
  · obtain ⟨p, hp, h2⟩ := bS_inr h
    rw [← Sum.inr.inj h2]
    exact ⟨by show (0 : Int) ≤ 0; omega, by show (0 : Int) < 16; omega⟩
theorem lI_0q : lI 0#64 = 0 := by decide
theorem if_w (h : pIf t (tks t n) k = .inr q) (hj : q.1.2.2 = some j) : whW q j := by
  unfold pIf at h
  rcases ite_or h with ⟨_, h⟩ | ⟨_, h⟩
  · cases h
  · rcases ite_or h with ⟨_, h⟩ | ⟨c0, h⟩
    · cases h
    · obtain ⟨p, hp, h⟩ := bS_inr h
      rcases ite_or h with ⟨_, h⟩ | ⟨_, h⟩
      · cases h
      · obtain ⟨u, hu, h2⟩ := bS_inr h
        have e := Sum.inr.inj h2
        have hj : u.1.1 = some j := by rw [← e] at hj; exact hj
        obtain ⟨w1, w2⟩ := wh_q hu hj
        have h01 : sS t (tks t n) (k + 1) = 0 ∨ sS t (tks t n) (k + 1) = 1 := by
          unfold sS
          split
          · exact Or.inr rfl
          · exact Or.inl rfl
        obtain ⟨cm, -⟩ := cmT_m (T := tks t n (skN t (tks t n) (k + 1))) h01 (by omega)
        have bm : (if rgR t (tks t n k) < 16 then (5 : Int) else 6) ∈ [(5 : Int), 6] := by split <;> decide
        have xm : p.1.1 ∈ [(8 : Int), 0] := by rcases pSid_8 hp with y | y <;> rw [y] <;> decide
        obtain ⟨o1, o2, o3⟩ := if_o _ cm _ bm _ xm
        rw [← e]
        refine ⟨w2, rfl, o1, o2, fun _ => ?_, fun z => absurd o3 z, and15_b, pSid_s hp⟩
        show lI u.1.2 = 0
        rw [w1, lI_0q]
theorem go_w (h : pGo t T k = .inr q) (hj : q.1.2.2 = some j) : whW q j := by
  unfold pGo at h
  obtain ⟨u, hu, h2⟩ := bS_inr h
  have e := Sum.inr.inj h2
  have hj : u.1.1 = some j := by rw [← e] at hj; exact hj
  obtain ⟨w1, w2⟩ := wh_q hu hj
  rw [← e]
  refine ⟨w2, rfl, by show (0 : Int) ≤ 5; omega, by show (5 : Int) < 256; omega, fun _ => ?_, fun z => absurd wdO_5 z, ⟨by show (0 : Int) ≤ 0; omega, by show (0 : Int) < 16; omega⟩, by show (0 : Int) ≤ 0; omega, by show (0 : Int) < 16; omega⟩
  show lI u.1.2 = 0
  rw [w1, lI_0q]
theorem gol_w (h : pGol t T k = .inr q) (hj : q.1.2.2 = some j) : whW q j := by
  unfold pGol at h
  obtain ⟨u, hu, h2⟩ := bS_inr h
  have e := Sum.inr.inj h2
  have hj : u.1.1 = some j := by rw [← e] at hj; exact hj
  obtain ⟨w1, w2⟩ := wh_q hu hj
  rw [← e]
  refine ⟨w2, rfl, by show (0 : Int) ≤ 6; omega, by show (6 : Int) < 256; omega, fun z => absurd z wdO_6, fun _ => ?_, ⟨by show (0 : Int) ≤ 0; omega, by show (0 : Int) < 16; omega⟩, by show (0 : Int) ≤ 0; omega, by show (0 : Int) < 16; omega⟩
  show lI u.1.2 = 0
  rw [w1, lI_0q]
theorem cal_w (h : pCal t T k = .inr q) (hj : q.1.2.2 = some j) : whW q j := by
  unfold pCal at h
  rcases ite_or h with ⟨_, h⟩ | ⟨_, h⟩
  · obtain ⟨u, hu, h2⟩ := bS_inr h
    rw [← Sum.inr.inj h2] at hj
    cases hj
  · obtain ⟨u, hu, h2⟩ := bS_inr h
    have e := Sum.inr.inj h2
    have hj : u.1.1 = some j := by rw [← e] at hj; exact hj
    obtain ⟨w1, w2⟩ := wh_q hu hj
    rw [← e]
    refine ⟨w2, rfl, by show (0 : Int) ≤ 133; omega, by show (133 : Int) < 256; omega, fun z => absurd z (show ¬ wdO 133 = 0 by decide), fun _ => ?_, ⟨by show (0 : Int) ≤ 0; omega, by show (0 : Int) < 16; omega⟩, by show (0 : Int) ≤ 1; omega, by show (1 : Int) < 16; omega⟩
    show lI u.1.2 = 0
    rw [w1, lI_0q]
theorem nn_j {o : Option Nat} (h : o = none) (hj : o = some j) : False := by
  rw [h] at hj
  cases hj
theorem nmd_w (h : pNmd t (tks t n) k = .inr q) (hj : q.1.2.2 = some j) : whW q j := by
  unfold pNmd at h
  rcases ite_or h with ⟨_, h⟩ | ⟨_, h⟩
  · exact if_w h hj
  · rcases ite_or h with ⟨_, h⟩ | ⟨_, h⟩
    · exact go_w h hj
    · rcases ite_or h with ⟨_, h⟩ | ⟨_, h⟩
      · exact gol_w h hj
      · rcases ite_or h with ⟨_, h⟩ | ⟨_, h⟩
        · exact cal_w h hj
        · rcases ite_or h with ⟨_, h⟩ | ⟨_, h⟩
          · rw [← Sum.inr.inj h] at hj
            cases hj
          · rcases ite_or h with ⟨_, h⟩ | ⟨_, h⟩
            · obtain ⟨p, _, h2⟩ := bS_inr h
              rw [← Sum.inr.inj h2] at hj
              cases hj
            · rcases ite_or h with ⟨_, h⟩ | ⟨_, h⟩
              · exact (nn_j (atm_n h) hj).elim
              · rcases ite_or h with ⟨_, h⟩ | ⟨_, h⟩
                · exact (nn_j (atm_n h) hj).elim
                · rcases ite_or h with ⟨_, h⟩ | ⟨_, h⟩
                  · exact (nn_j (atm_n h) hj).elim
                  · rcases ite_or h with ⟨_, h⟩ | ⟨_, h⟩
                    · exact (nn_j (atm_n h) hj).elim
                    · cases h
theorem stm_e : pStm t T k = if 0 ≤ rgR t (T k) then pTo t T k else if sgn T 42 k then pMem t T k else pNmd t T k := rfl
theorem stm_w (h : pStm t (tks t n) k = .inr q) (hj : q.1.2.2 = some j) : whW q j := by
  rw [stm_e] at h
  rcases ite_or h with ⟨_, h⟩ | ⟨_, h⟩
  · exact (nn_j (to_n h) hj).elim
  · rcases ite_or h with ⟨_, h⟩ | ⟨_, h⟩
    · exact (nn_j (mem_n h) hj).elim
    · exact nmd_w h hj
end CPU
