/-! ===== a fault's place lies in the text (pure) ===== -/
def isE (t : Nat → Int) (n : Nat) (e : Int) : Prop := ∃ k, e = (tB (tks t n k) : Int)
section CER
variable {t : Nat → Int} {n i j k m l M : Nat} {c d e o w x y z a r op f im : Int} {v Y : B64} {s s' : RD} {W : Nat → B64}
theorem bS_inl {α β : Type} {r : Int ⊕ α} {f : α → Int ⊕ β} (h : bS r f = .inl e) : r = .inl e ∨ ∃ p, r = .inr p ∧ f p = .inl e := by
  cases r with
  | inl e' => exact Or.inl (congrArg _ (Sum.inl.inj h))
  | inr p => exact Or.inr ⟨p, rfl, h⟩
theorem ite_ol {α : Type} {c : Prop} {d : Decidable c} {A B : Int ⊕ α} (h : @ite _ c d A B = .inl e) : (c ∧ A = .inl e) ∨ (¬ c ∧ B = .inl e) := by
  by_cases x : c
  · rw [if_pos x] at h
    exact Or.inl ⟨x, h⟩
  · rw [if_neg x] at h
    exact Or.inr ⟨x, h⟩
theorem er_num (h : pNum (tks t n) Y k = .inl e) : isE t n e := by
  unfold pNum at h
  rcases ite_ol h with ⟨_, h⟩ | ⟨_, h⟩
  · cases h
  · exact ⟨_, (Sum.inl.inj h).symm⟩
theorem er_cst (h : pCst (tks t n) k = .inl e) : isE t n e := by
  unfold pCst at h
  rcases bS_inl h with h | ⟨p, _, h⟩
  · exact er_num h
  · cases h
theorem er_rgt (h : pRgt t (tks t n) w k = .inl e) : isE t n e := by
  unfold pRgt at h
  rcases ite_ol h with ⟨_, h⟩ | ⟨_, h⟩
  · exact ⟨_, (Sum.inl.inj h).symm⟩
  · cases h
theorem er_sid (h : pSid t (tks t n) w k = .inl e) : isE t n e := by
  unfold pSid at h
  rcases ite_ol h with ⟨_, h⟩ | ⟨_, h⟩
  · rcases bS_inl h with h | ⟨p, _, h⟩
    · exact er_rgt h
    · cases h
  · rcases bS_inl h with h | ⟨p, _, h⟩
    · exact er_cst h
    · cases h
theorem er_wh (h : pWh t (tks t n) Y k = .inl e) : isE t n e := by
  unfold pWh at h
  rcases ite_ol h with ⟨_, h⟩ | ⟨_, h⟩
  · rcases ite_ol h with ⟨_, h⟩ | ⟨_, h⟩
    · exact ⟨_, (Sum.inl.inj h).symm⟩
    · cases h
  · rcases ite_ol h with ⟨_, h⟩ | ⟨_, h⟩
    · rcases bS_inl h with h | ⟨p, _, h⟩
      · exact er_num h
      · cases h
    · exact ⟨_, (Sum.inl.inj h).symm⟩
theorem er_pt2 (h : pPt2 t (tks t n) z k = .inl e) : isE t n e := by
  unfold pPt2 at h
  rcases ite_ol h with ⟨_, h⟩ | ⟨_, h⟩
  · exact ⟨_, (Sum.inl.inj h).symm⟩
  · rcases ite_ol h with ⟨_, h⟩ | ⟨_, h⟩
    · exact ⟨_, (Sum.inl.inj h).symm⟩
    · rcases ite_ol h with ⟨_, h⟩ | ⟨_, h⟩
      · exact ⟨_, (Sum.inl.inj h).symm⟩
      · rcases bS_inl h with h | ⟨p, _, h⟩
        · exact er_rgt h
        · rcases ite_ol h with ⟨_, h⟩ | ⟨_, h⟩
          · exact ⟨_, (Sum.inl.inj h).symm⟩
          · rcases bS_inl h with h | ⟨p, _, h⟩
            · exact er_num h
            · rcases ite_ol h with ⟨_, h⟩ | ⟨_, h⟩
              · exact ⟨_, (Sum.inl.inj h).symm⟩
              · cases h
theorem er_ptr (h : pPtr t (tks t n) x k = .inl e) : isE t n e := by
  unfold pPtr at h
  rcases ite_ol h with ⟨_, h⟩ | ⟨_, h⟩
  · exact ⟨_, (Sum.inl.inj h).symm⟩
  · rcases ite_ol h with ⟨_, h⟩ | ⟨_, h⟩
    · exact ⟨_, (Sum.inl.inj h).symm⟩
    · rcases ite_ol h with ⟨_, h⟩ | ⟨_, h⟩
      · exact ⟨_, (Sum.inl.inj h).symm⟩
      · exact er_pt2 h
theorem er_pln (h : pPln t (tks t n) r x k = .inl e) : isE t n e := by
  unfold pPln at h
  rcases ite_ol h with ⟨_, h⟩ | ⟨_, h⟩
  · exact ⟨_, (Sum.inl.inj h).symm⟩
  · rcases ite_ol h with ⟨_, h⟩ | ⟨_, h⟩
    · rcases ite_ol h with ⟨_, h⟩ | ⟨_, h⟩
      · exact ⟨_, (Sum.inl.inj h).symm⟩
      · cases h
    · rcases ite_ol h with ⟨_, h⟩ | ⟨_, h⟩
      · exact ⟨_, (Sum.inl.inj h).symm⟩
      · cases h
theorem er_val (h : pVal t (tks t n) r k = .inl e) : isE t n e := by
  unfold pVal at h
  rcases ite_ol h with ⟨_, h⟩ | ⟨_, h⟩
  · rcases bS_inl h with h | ⟨p, _, h⟩
    · exact er_rgt h
    · cases h
  · rcases ite_ol h with ⟨_, h⟩ | ⟨_, h⟩
    · exact er_pln h
    · rcases ite_ol h with ⟨_, h⟩ | ⟨_, h⟩
      · rcases ite_ol h with ⟨_, h⟩ | ⟨_, h⟩
        · rcases ite_ol h with ⟨_, h⟩ | ⟨_, h⟩
          · exact ⟨_, (Sum.inl.inj h).symm⟩
          · cases h
        · exact er_pln h
      · rcases ite_ol h with ⟨_, h⟩ | ⟨_, h⟩
        · rcases ite_ol h with ⟨_, h⟩ | ⟨_, h⟩
          · exact ⟨_, (Sum.inl.inj h).symm⟩
          · rcases ite_ol h with ⟨_, h⟩ | ⟨_, h⟩
            · exact ⟨_, (Sum.inl.inj h).symm⟩
            · rcases bS_inl h with h | ⟨p, _, h⟩
              · exact er_rgt h
              · cases h
        · rcases ite_ol h with ⟨_, h⟩ | ⟨_, h⟩
          · rcases bS_inl h with h | ⟨p, _, h⟩
            · exact er_ptr h
            · cases h
          · rcases ite_ol h with ⟨_, h⟩ | ⟨_, h⟩
            · rcases bS_inl h with h | ⟨p, _, h⟩
              · exact er_num h
              · cases h
            · rcases ite_ol h with ⟨_, h⟩ | ⟨_, h⟩
              · exact ⟨_, (Sum.inl.inj h).symm⟩
              · rcases ite_ol h with ⟨_, h⟩ | ⟨_, h⟩
                · exact ⟨_, (Sum.inl.inj h).symm⟩
                · cases h
theorem er_to (h : pTo t (tks t n) k = .inl e) : isE t n e := by
  unfold pTo at h
  rcases ite_ol h with ⟨_, h⟩ | ⟨_, h⟩
  · exact er_val h
  · rcases ite_ol h with ⟨_, h⟩ | ⟨_, h⟩
    · exact ⟨_, (Sum.inl.inj h).symm⟩
    · rcases bS_inl h with h | ⟨p, _, h⟩
      · exact er_sid h
      · cases h
theorem er_mem (h : pMem t (tks t n) k = .inl e) : isE t n e := by
  unfold pMem at h
  rcases bS_inl h with h | ⟨p, _, h⟩
  · exact er_ptr h
  · rcases ite_ol h with ⟨_, h⟩ | ⟨_, h⟩
    · exact ⟨_, (Sum.inl.inj h).symm⟩
    · rcases ite_ol h with ⟨_, h⟩ | ⟨_, h⟩
      · rcases bS_inl h with h | ⟨p, _, h⟩
        · exact er_rgt h
        · cases h
      · rcases bS_inl h with h | ⟨p, _, h⟩
        · exact er_cst h
        · cases h
theorem er_atm {g : Prop} {dg : Decidable g} (h : pAtm t (tks t n) g dg x k = .inl e) : isE t n e := by
  unfold pAtm at h
  rcases bS_inl h with h | ⟨p, _, h⟩
  · exact er_ptr h
  · rcases ite_ol h with ⟨_, h⟩ | ⟨_, h⟩
    · rcases ite_ol h with ⟨_, h⟩ | ⟨_, h⟩
      · exact ⟨_, (Sum.inl.inj h).symm⟩
      · rcases bS_inl h with h | ⟨p, _, h⟩
        · exact er_rgt h
        · cases h
    · rcases bS_inl h with h | ⟨p, _, h⟩
      · exact er_rgt h
      · cases h
theorem er_if (h : pIf t (tks t n) k = .inl e) : isE t n e := by
  unfold pIf at h
  rcases ite_ol h with ⟨_, h⟩ | ⟨_, h⟩
  · exact ⟨_, (Sum.inl.inj h).symm⟩
  · rcases ite_ol h with ⟨_, h⟩ | ⟨_, h⟩
    · exact ⟨_, (Sum.inl.inj h).symm⟩
    · rcases bS_inl h with h | ⟨p, _, h⟩
      · exact er_sid h
      · rcases ite_ol h with ⟨_, h⟩ | ⟨_, h⟩
        · exact ⟨_, (Sum.inl.inj h).symm⟩
        · rcases bS_inl h with h | ⟨p, _, h⟩
          · exact er_wh h
          · cases h
theorem er_go (h : pGo t (tks t n) k = .inl e) : isE t n e := by
  unfold pGo at h
  rcases bS_inl h with h | ⟨p, _, h⟩
  · exact er_wh h
  · cases h
theorem er_gol (h : pGol t (tks t n) k = .inl e) : isE t n e := by
  unfold pGol at h
  rcases bS_inl h with h | ⟨p, _, h⟩
  · exact er_wh h
  · cases h
theorem er_cal (h : pCal t (tks t n) k = .inl e) : isE t n e := by
  unfold pCal at h
  rcases ite_ol h with ⟨_, h⟩ | ⟨_, h⟩
  · rcases bS_inl h with h | ⟨p, _, h⟩
    · exact er_num h
    · cases h
  · rcases bS_inl h with h | ⟨p, _, h⟩
    · exact er_wh h
    · cases h
theorem er_nmd (h : pNmd t (tks t n) k = .inl e) : isE t n e := by
  unfold pNmd at h
  rcases ite_ol h with ⟨_, h⟩ | ⟨_, h⟩
  · exact er_if h
  · rcases ite_ol h with ⟨_, h⟩ | ⟨_, h⟩
    · exact er_go h
    · rcases ite_ol h with ⟨_, h⟩ | ⟨_, h⟩
      · exact er_gol h
      · rcases ite_ol h with ⟨_, h⟩ | ⟨_, h⟩
        · exact er_cal h
        · rcases ite_ol h with ⟨_, h⟩ | ⟨_, h⟩
          · cases h
          · rcases ite_ol h with ⟨_, h⟩ | ⟨_, h⟩
            · rcases bS_inl h with h | ⟨p, _, h⟩
              · exact er_num h
              · cases h
            · rcases ite_ol h with ⟨_, h⟩ | ⟨_, h⟩
              · exact er_atm h
              · rcases ite_ol h with ⟨_, h⟩ | ⟨_, h⟩
                · exact er_atm h
                · rcases ite_ol h with ⟨_, h⟩ | ⟨_, h⟩
                  · exact er_atm h
                  · rcases ite_ol h with ⟨_, h⟩ | ⟨_, h⟩
                    · exact er_atm h
                    · exact ⟨_, (Sum.inl.inj h).symm⟩
theorem er_stm (h : pStm t (tks t n) k = .inl e) : isE t n e := by
  rw [stm_e] at h
  rcases ite_ol h with ⟨_, h⟩ | ⟨_, h⟩
  · exact er_to h
  · rcases ite_ol h with ⟨_, h⟩ | ⟨_, h⟩
    · exact er_mem h
    · exact er_nmd h
theorem er_sta (h : pSta t (tks t n) s = .inl e) : isE t n e := by
  unfold pSta pSt2 at h
  rcases bS_inl h with h | ⟨p, _, h⟩
  · rcases bS_inl h with h | ⟨p, _, h⟩
    · exact er_stm h
    · rcases ite_ol h with ⟨_, h⟩ | ⟨_, h⟩
      · exact ⟨_, (Sum.inl.inj h).symm⟩
      · rcases ite_ol h with ⟨_, h⟩ | ⟨_, h⟩
        · cases h
        · exact ⟨_, (Sum.inl.inj h).symm⟩
  · cases h
theorem er_lin (h : pLin t (tks t n) s = .inl e) : isE t n e := by
  unfold pLin at h
  rcases ite_ol h with ⟨_, h⟩ | ⟨_, h⟩
  · cases h
  · rcases ite_ol h with ⟨_, h⟩ | ⟨_, h⟩
    · split at h
      · exact ⟨_, (Sum.inl.inj h).symm⟩
      · rcases ite_ol h with ⟨_, h⟩ | ⟨_, h⟩
        · cases h
        · exact er_sta h
    · exact er_sta h
theorem er_lns : ∀ (f : Nat) (s : RD), pLns t (tks t n) f s = .inl e → isE t n e := by
  intro f
  induction f with
  | zero =>
    intro s h
    cases h
  | succ f ih =>
    intro s h
    have h : (if tK (tks t n s.2.2.2) = 0 then .inr s else bS (pLin t (tks t n) s) fun s' => if tK (tks t n s'.2.2.2) = 1 then pLns t (tks t n) f (s'.1, s'.2.1, s'.2.2.1, s'.2.2.2 + 1) else .inr s') = .inl e := h
    rcases ite_ol h with ⟨_, h⟩ | ⟨_, h⟩
    · cases h
    · rcases bS_inl h with h | ⟨p, _, h⟩
      · exact er_lin h
      · rcases ite_ol h with ⟨_, h⟩ | ⟨_, h⟩
        · exact ih _ h
        · cases h
theorem er_plc : ∀ (f u : Nat) (W : Nat → B64), pPlc t (tks t n) s f u W = .inl e → isE t n e := by
  intro f
  induction f with
  | zero =>
    intro u W h
    cases h
  | succ f ih =>
    intro u W h
    unfold pPlc at h
    split at h
    · exact ⟨_, (Sum.inl.inj h).symm⟩
    · exact ih _ _ h
theorem lns_b : ∀ (f : Nat) (s : RD), invL (tks t n) s → pLns t (tks t n) f s = .inr s' → s'.2.2.1.1 ≤ 200 := by
  intro f
  induction f with
  | zero =>
    intro s i h
    have h : Sum.inr s = Sum.inr s' := h
    rw [← Sum.inr.inj h]
    exact i.1
  | succ f ih =>
    intro s i h
    have h : (if tK (tks t n s.2.2.2) = 0 then .inr s else bS (pLin t (tks t n) s) fun s' => if tK (tks t n s'.2.2.2) = 1 then pLns t (tks t n) f (s'.1, s'.2.1, s'.2.2.1, s'.2.2.2 + 1) else .inr s') = .inr s' := h
    rcases ite_or h with ⟨_, h⟩ | ⟨c0, h⟩
    · rw [← Sum.inr.inj h]
      exact i.1
    · obtain ⟨s1, hp, h⟩ := bS_inr h
      obtain ⟨i1, i2, i3⟩ := pLin_i i hp c0
      obtain ⟨j1, j2, j3, j4⟩ := i1
      rcases ite_or h with ⟨c1, h⟩ | ⟨_, h⟩
      · have lt1 := tks_lt (t := t) (n := n) (k := s1.2.2.2) (by rw [c1]; decide)
        have m1 := tks_m1 (t := t) (n := n) (k := s1.2.2.2)
        exact ih (s1.1, s1.2.1, s1.2.2.1, s1.2.2.2 + 1) ⟨j1, j2, by show 3 * s1.1.1 ≤ tB (tks t n (s1.2.2.2 + 1)); omega⟩ h
      · rw [← Sum.inr.inj h]
        exact j1
/-- what assemble tells -/
theorem pAsm_b : (∀ e, pAsm t n = .inl e → 0 ≤ e ∧ e ≤ n) ∧ ∀ q, pAsm t n = .inr q → 0 < q.1 ∧ q.1 ≤ 200 := by
  have ie : ∀ e, isE t n e → 0 ≤ e ∧ e ≤ n := fun e z => by
    obtain ⟨k, hk⟩ := z
    have := tks_le (t := t) (n := n) k
    omega
  unfold pAsm
  refine ⟨fun e h => ?_, fun q h => ?_⟩
  · rcases bS_inl h with h | ⟨p, _, h⟩
    · exact ie e (er_lns _ _ h)
    · rcases bS_inl h with h | ⟨W, _, h⟩
      · exact ie e (er_plc _ _ _ h)
      · rcases ite_ol h with ⟨_, h⟩ | ⟨_, h⟩
        · have := Sum.inl.inj h
          omega
        · cases h
  · obtain ⟨p, hp, h⟩ := bS_inr h
    obtain ⟨W, _, h⟩ := bS_inr h
    rcases ite_or h with ⟨_, h⟩ | ⟨c, h⟩
    · cases h
    · rw [← Sum.inr.inj h]
      have := lns_b _ _ ⟨Nat.zero_le _, Nat.le_refl _, Nat.zero_le _⟩ hp
      exact ⟨by show 0 < p.2.2.1.1; omega, this⟩
end CER
