/-! ===== links' words have an empty place (pure) ===== -/
/-- such a word -/
def gdW (x : Int) (w : B64) : Prop := wdO (fOp w) = x ∧ (x = 0 → w &&& iL (-4294901761) = w) ∧ (¬ x = 0 → w &&& iL 4294967295 = w)
def lkC (s : RD) : Prop := (∀ v, v < s.2.1.1 → gdW (s.2.1.2 v).2.2 (s.2.2.1.2 (s.2.1.2 v).2.1)) ∧ ∀ v v', v < v' → v' < s.2.1.1 → (s.2.1.2 v).2.1 < (s.2.1.2 v').2.1
section CLK
variable {t : Nat → Int} {n i j k m l M : Nat} {c d e o w x y z a r op f im : Int} {v Y : B64} {s s' : RD}
theorem k_32 : lShl v 32 &&& iL (-4294901761) = lShl v 32 := by
  show (v <<< 32) &&& iL (-4294901761) = v <<< 32
  refine BitVec.eq_of_getLsbD_eq fun i hi => ?_
  rw [BitVec.getLsbD_and, BitVec.getLsbD_shiftLeft]
  have mk : ∀ i : Fin 64, 32 ≤ (i : Nat) → (iL (-4294901761)).getLsbD (i : Nat) = true := by decide
  by_cases c : i < 32
  · rw [decide_eq_true c, Bool.not_true, Bool.and_false, Bool.false_and, Bool.false_and]
  · rw [show (iL (-4294901761)).getLsbD i = true from mk ⟨i, hi⟩ (show 32 ≤ i by omega), Bool.and_true]
theorem k_16 : lShl (v &&& iL 65535) 16 &&& iL 4294967295 = lShl (v &&& iL 65535) 16 := by
  show ((v &&& iL 65535) <<< 16) &&& iL 4294967295 = (v &&& iL 65535) <<< 16
  refine BitVec.eq_of_getLsbD_eq fun i hi => ?_
  rw [BitVec.getLsbD_and, BitVec.getLsbD_shiftLeft, BitVec.getLsbD_and]
  have mk : ∀ i : Fin 64, (i : Nat) < 32 → (iL 4294967295).getLsbD (i : Nat) = true := by decide
  have mz : ∀ i : Fin 64, 16 ≤ (i : Nat) → (iL 65535).getLsbD (i : Nat) = false := by decide
  by_cases c : i < 32
  · rw [show (iL 4294967295).getLsbD i = true from mk ⟨i, hi⟩ c, Bool.and_true]
  · rw [show (iL 65535).getLsbD (i - 16) = false from mz ⟨i - 16, by omega⟩ (show 16 ≤ i - 16 by omega), Bool.and_false, Bool.and_false, Bool.false_and]
theorem k_s : ∀ a : Fin 16, iL (iShl ((a : Nat) : Int) 12) &&& iL (-4294901761) = iL (iShl ((a : Nat) : Int) 12) ∧ iL (iShl ((a : Nat) : Int) 12) &&& iL 4294967295 = iL (iShl ((a : Nat) : Int) 12) ∧ iL (iShl ((a : Nat) : Int) 8) &&& iL (-4294901761) = iL (iShl ((a : Nat) : Int) 8) ∧ iL (iShl ((a : Nat) : Int) 8) &&& iL 4294967295 = iL (iShl ((a : Nat) : Int) 8) := by decide +kernel
theorem k_o : ∀ a : Fin 256, iL ((a : Nat) : Int) &&& iL (-4294901761) = iL ((a : Nat) : Int) ∧ iL ((a : Nat) : Int) &&& iL 4294967295 = iL ((a : Nat) : Int) := by decide +kernel
theorem k_s' (h : 0 ≤ a ∧ a < 16) : iL (iShl a 12) &&& iL (-4294901761) = iL (iShl a 12) ∧ iL (iShl a 12) &&& iL 4294967295 = iL (iShl a 12) ∧ iL (iShl a 8) &&& iL (-4294901761) = iL (iShl a 8) ∧ iL (iShl a 8) &&& iL 4294967295 = iL (iShl a 8) := by
  have := k_s ⟨a.toNat, by omega⟩
  simp only at this
  rwa [show ((a.toNat : Nat) : Int) = a by omega] at this
theorem k_o' (h : 0 ≤ a ∧ a < 256) : iL a &&& iL (-4294901761) = iL a ∧ iL a &&& iL 4294967295 = iL a := by
  have := k_o ⟨a.toNat, by omega⟩
  simp only at this
  rwa [show ((a.toNat : Nat) : Int) = a by omega] at this
theorem z_16a : lShl (iL 0 &&& iL 65535) 16 &&& iL (-4294901761) = lShl (iL 0 &&& iL 65535) 16 := by decide
theorem z_32a : lShl (iL 0) 32 &&& iL 4294967295 = lShl (iL 0) 32 := by decide
theorem and_5 {A B C D E X : B64} (a : A &&& X = A) (b : B &&& X = B) (c : C &&& X = C) (d : D &&& X = D) (e : E &&& X = E) : ((((A ||| B) ||| C) ||| D) ||| E) &&& X = (((A ||| B) ||| C) ||| D) ||| E := by
  rw [BitVec.and_comm, BitVec.and_or_distrib_left, BitVec.and_or_distrib_left, BitVec.and_or_distrib_left, BitVec.and_or_distrib_left, BitVec.and_comm X A, BitVec.and_comm X B, BitVec.and_comm X C, BitVec.and_comm X D, BitVec.and_comm X E, a, b, c, d, e]
theorem gd_w {q : SR × Nat} (h : whW q j) : gdW (wdO q.1.1.1) (srW q.1) := by
  obtain ⟨-, an, o1, o2, h0, h1, d, s⟩ := h
  have e : srW q.1 = wdR q.1.1.1 q.1.1.2.1 q.1.1.2.2.1 q.1.1.2.2.2.1 q.1.1.2.2.2.2 := by
    unfold srW
    rw [if_pos (by rw [an])]
  rw [e]
  refine ⟨by rw [fOp_w ⟨o1, o2⟩], fun z => ?_, fun z => ?_⟩
  · rw [h0 z]
    unfold wdR
    exact and_5 k_32 z_16a (k_s' s).1 (k_s' d).2.2.1 (k_o' ⟨o1, o2⟩).1
  · rw [h1 z]
    unfold wdR
    exact and_5 z_32a k_16 (k_s' s).2.1 (k_s' d).2.2.2 (k_o' ⟨o1, o2⟩).2
theorem lkC_u {q : SR × Nat} (hm : lkM s) (h : lkC s) (hq' : pSt2 t (tks t n) M k = .inr q) : lkC (updS s q) := by
  have w := snW_b (r := q.1)
  obtain ⟨c1, c2⟩ := h
  have stm : pStm t (tks t n) k = .inr q := by
    unfold pSt2 at hq'
    obtain ⟨p, hp, h2⟩ := bS_inr hq'
    rcases ite_or h2 with ⟨_, h2⟩ | ⟨_, h2⟩
    · cases h2
    · rcases ite_or h2 with ⟨_, h2⟩ | ⟨_, h2⟩
      · rw [hp, Sum.inr.inj h2]
      · cases h2
  have ws : ∀ i, i < s.2.2.1.1 → (if i = s.2.2.1.1 then srW q.1 else if i = s.2.2.1.1 + 1 ∧ ¬ q.1.2.1.2.2 = 0 then q.1.2.1.2.1 else s.2.2.1.2 i) = s.2.2.1.2 i := fun i hi => by
    rw [if_neg (show ¬ i = s.2.2.1.1 by omega), if_neg (show ¬ (i = s.2.2.1.1 + 1 ∧ ¬ q.1.2.1.2.2 = 0) from fun z => by have := z.1; omega)]
  cases hq : q.1.2.2 with
  | none =>
    have eu : updS s q = (s.1, s.2.1, (s.2.2.1.1 + snW q.1, fun i => if i = s.2.2.1.1 then srW q.1 else if i = s.2.2.1.1 + 1 ∧ ¬ q.1.2.1.2.2 = 0 then q.1.2.1.2.1 else s.2.2.1.2 i), q.2) := by
      unfold updS
      rw [hq]
    rw [eu]
    refine ⟨fun v hv => ?_, c2⟩
    show gdW (s.2.1.2 v).2.2 (if (s.2.1.2 v).2.1 = s.2.2.1.1 then srW q.1 else if (s.2.1.2 v).2.1 = s.2.2.1.1 + 1 ∧ ¬ q.1.2.1.2.2 = 0 then q.1.2.1.2.1 else s.2.2.1.2 (s.2.1.2 v).2.1)
    rw [ws _ (hm v hv)]
    exact c1 v hv
  | some j =>
    obtain ⟨L, hL⟩ : ∃ L, L = s.2.1.1 := ⟨_, rfl⟩
    have eu : updS s q = (s.1, (L + 1, fun u => if u = L then (j, s.2.2.1.1, wdO q.1.1.1) else s.2.1.2 u), (s.2.2.1.1 + snW q.1, fun i => if i = s.2.2.1.1 then srW q.1 else if i = s.2.2.1.1 + 1 ∧ ¬ q.1.2.1.2.2 = 0 then q.1.2.1.2.1 else s.2.2.1.2 i), q.2) := by
      unfold updS
      rw [hq, hL]
    rw [eu]
    refine ⟨fun v hv => ?_, fun v v' hvv hv => ?_⟩
    · have hv : v < L + 1 := hv
      show gdW ((if v = L then (j, s.2.2.1.1, wdO q.1.1.1) else s.2.1.2 v) : Nat × Nat × Int).2.2 (if ((if v = L then (j, s.2.2.1.1, wdO q.1.1.1) else s.2.1.2 v) : Nat × Nat × Int).2.1 = s.2.2.1.1 then srW q.1 else if ((if v = L then (j, s.2.2.1.1, wdO q.1.1.1) else s.2.1.2 v) : Nat × Nat × Int).2.1 = s.2.2.1.1 + 1 ∧ ¬ q.1.2.1.2.2 = 0 then q.1.2.1.2.1 else s.2.2.1.2 ((if v = L then (j, s.2.2.1.1, wdO q.1.1.1) else s.2.1.2 v) : Nat × Nat × Int).2.1)
      by_cases cv : v = L
      · rw [if_pos cv]
        show gdW (wdO q.1.1.1) (if s.2.2.1.1 = s.2.2.1.1 then srW q.1 else _)
        rw [if_pos rfl]
        exact gd_w (stm_w stm hq)
      · have hv : v < s.2.1.1 := by omega
        rw [if_neg cv, ws _ (hm v hv)]
        exact c1 v hv
    · have hv : v' < L + 1 := hv
      show ((if v = L then (j, s.2.2.1.1, wdO q.1.1.1) else s.2.1.2 v) : Nat × Nat × Int).2.1 < ((if v' = L then (j, s.2.2.1.1, wdO q.1.1.1) else s.2.1.2 v') : Nat × Nat × Int).2.1
      rw [if_neg (show ¬ v = L by omega)]
      by_cases cv : v' = L
      · rw [if_pos cv]
        exact hm v (by omega)
      · rw [if_neg cv]
        exact c2 v v' hvv (by omega)
theorem lkC_l (hm : lkM s) (h : lkC s) (e : pLin t (tks t n) s = .inr s') : lkC s' := by
  unfold pLin at e
  have sta : ∀ s0 : RD, lkM s0 → lkC s0 → pSta t (tks t n) s0 = .inr s' → lkC s' := fun s0 hm0 h0 e0 => by
    unfold pSta at e0
    obtain ⟨q, hq, h2⟩ := bS_inr e0
    rw [← Sum.inr.inj h2]
    exact lkC_u hm0 h0 hq
  rcases ite_or e with ⟨_, e⟩ | ⟨_, e⟩
  · rw [← Sum.inr.inj e]; exact h
  · rcases ite_or e with ⟨_, e⟩ | ⟨_, e⟩
    · split at e
      · cases e
      · rcases ite_or e with ⟨_, e⟩ | ⟨_, e⟩
        · rw [← Sum.inr.inj e]; exact h
        · exact sta (addL s) hm h e
    · exact sta s hm h e
end CLK
