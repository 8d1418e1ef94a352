/-! ===== stores: what the judge says is so ===== -/
/-- the machine but for memory -/
def sameC {W : Type} (B : WB W) (c c' : TC W) : Prop := (cP c' = cP c ∧ cN c' = cN c ∧ cR c' = cR c ∧ cB c' = cB c) ∧ (B.1 (cW c') = B.1 (cW c) ∧ B.2.2.2.1 (cW c') = B.2.2.2.1 (cW c) ∧ B.2.2.2.2 (cW c') = B.2.2.2.2 (cW c))
theorem byJ_lt (x : B64) (j : Nat) : (byJ x j).toNat < 256 := by
  unfold byJ
  rw [BitVec.toNat_and, show (255#64).toNat = 2 ^ 8 - 1 from rfl, Nat.and_two_pow_sub_one_eq_mod]
  exact Nat.mod_lt _ (by decide)
theorem byJ_bit (x : B64) (j i : Nat) : (byJ x j).getLsbD i = (decide (i < 8) && x.getLsbD (8 * j + i)) := by
  unfold byJ
  rw [BitVec.getLsbD_and, BitVec.getLsbD_ushiftRight]
  have e : (255#64).getLsbD i = decide (i < 8) := by
    show Nat.testBit (2 ^ 8 - 1) i = _
    rw [Nat.testBit_two_pow_sub_one]
  rw [e, Bool.and_comm]
theorem leN_bit : ∀ (l : List B64), (∀ y ∈ l, y.toNat < 256) → ∀ i, i < 64 → i < 8 * l.length → (leN l).getLsbD i = (l.getD (i / 8) 0#64).getLsbD (i % 8) := by
  intro l
  induction l with
  | nil => intro _ i _ h; exfalso; simp at h
  | cons b t ih =>
    intro hy i hi hl
    have hl : i < 8 * (t.length + 1) := hl
    show ((leN t <<< 8) ||| b).getLsbD i = _
    rw [BitVec.getLsbD_or, BitVec.getLsbD_shiftLeft]
    have hb := hy b (List.mem_cons_self ..)
    by_cases lt : i < 8
    · simp only [hi, lt, decide_true, Bool.not_true, Bool.true_and, Bool.false_and, Bool.false_or]
      rw [show i / 8 = 0 by omega, show i % 8 = i by omega]
      rfl
    · have z : b.getLsbD i = false := by
        show b.toNat.testBit i = false
        refine Nat.testBit_lt_two_pow (Nat.lt_of_lt_of_le hb ?_)
        have : 2 ^ 8 ≤ 2 ^ i := Nat.pow_le_pow_right (by omega) (by omega)
        omega
      rw [z]
      simp only [hi, lt, decide_true, decide_false, Bool.not_false, Bool.true_and, Bool.or_false]
      rw [ih (fun y h => hy y (List.mem_cons_of_mem _ h)) (i - 8) (by omega) (by omega)]
      rw [show i / 8 = (i - 8) / 8 + 1 by omega, show (i - 8) % 8 = i % 8 by omega]
      rfl
theorem leN_bys (x : B64) : leN (bysN x 8) = x := by
  apply BitVec.eq_of_getLsbD_eq
  intro i hi
  have l : (bysN x 8).length = 8 := rfl
  rw [leN_bit _ (fun y hy => by
    obtain ⟨j, _, e⟩ := List.mem_map.mp hy
    rw [← e]
    exact byJ_lt x j) i hi (by omega)]
  have g : (bysN x 8).getD (i / 8) 0#64 = byJ x (i / 8) := by
    unfold bysN
    rw [List.getD_eq_getElem?_getD, List.getElem?_map, List.getElem?_range (by omega)]
    rfl
  rw [g, byJ_bit]
  have : i % 8 < 8 := by omega
  rw [show 8 * (i / 8) + i % 8 = i by omega]
  simp [this]
section ST1
variable {W : Type} {B : WB W} {E : EV} {th : Int → Nat} {tp : Int → B64} {S : ST} {c : TC W} {t : Int}
theorem wrL_stk {f : Nat} (hf : f < 4) : ∀ (l : List B64) (b : Nat) (c : TC W), b + l.length ≤ 128 → ∃ c', wrL B c (2 + f) b l = some c' ∧ (cP c' = cP c ∧ cN c' = cN c ∧ cR c' = cR c ∧ cB c' = cB c) ∧ cW c' = cW c ∧ cS c' = fun i j => if i = f ∧ b ≤ j ∧ j < b + l.length then (1, 0, l.getD (j - b) 0#64) else cS c i j := by
  intro l
  induction l with
  | nil =>
    intro b c _
    refine ⟨c, rfl, ⟨rfl, rfl, rfl, rfl⟩, rfl, ?_⟩
    funext i j
    rw [if_neg (fun e => by have : j < b + 0 := e.2.2; omega)]
  | cons v t ih =>
    intro b c hb
    have hb : b + (t.length + 1) ≤ 128 := hb
    have e : wrB B c (2 + f) b v = some (cP c, cN c, cR c, upS (cS c) f b (1, 0, v), cB c, cW c) := by
      unfold wrB
      rw [if_pos (by omega), if_pos (by omega), show 2 + f - 2 = f by omega]
    obtain ⟨c', e1, e2, e3, e4⟩ := ih (b + 1) (cP c, cN c, cR c, upS (cS c) f b (1, 0, v), cB c, cW c) (by omega)
    refine ⟨c', ?_, e2, e3, ?_⟩
    · unfold wrL
      rw [e]
      exact e1
    · rw [e4]
      funext i j
      show (if i = f ∧ b + 1 ≤ j ∧ j < b + 1 + t.length then (1, 0, t.getD (j - (b + 1)) 0#64) else (if i = f ∧ j = b then (1, 0, v) else cS c i j)) = if i = f ∧ b ≤ j ∧ j < b + (t.length + 1) then (1, 0, (v :: t).getD (j - b) 0#64) else cS c i j
      by_cases c1 : i = f ∧ b + 1 ≤ j ∧ j < b + 1 + t.length
      · rw [if_pos c1, if_pos ⟨c1.1, by omega, by omega⟩, show j - b = (j - (b + 1)) + 1 by omega]
        rfl
      · rw [if_neg c1]
        by_cases c2 : i = f ∧ j = b
        · rw [if_pos c2, if_pos ⟨c2.1, by omega, by omega⟩, c2.2, show b - b = 0 by omega]
          rfl
        · rw [if_neg c2, if_neg (fun q => by omega)]
theorem wrL_wld (hB : okB B) {v : VL} {o : Nat} (k : ¬ vk v = 3) : ∀ (l : List B64) (b : Nat) (c : TC W), locG B S c v o b l.length → ∃ c', wrL B c o b l = some c' ∧ sameC B c c' ∧ cS c' = cS c := by
  intro l
  induction l with
  | nil => intro b c _; exact ⟨c, rfl, ⟨⟨rfl, rfl, rfl, rfl⟩, rfl, rfl, rfl⟩, rfl⟩
  | cons y l ih =>
    intro b c hl
    rcases hl with hl | ⟨_, hl⟩
    · exact absurd hl.1 k
    · have hb := hB.1 (cW c) o b y
      have e : wrB B c o b y = some (cP c, cN c, cR c, cS c, cB c, B.2.2.1 (cW c) o b y) := by
        have ll : (y :: l).length = l.length + 1 := rfl
        rw [ll] at hl
        unfold wrB
        rcases hl with h | h | h
        · rw [if_neg (by omega), if_pos h.1, if_pos (by omega)]
        · rw [if_neg (by omega), if_neg (by omega), if_pos h.1, if_pos (by omega)]
        · rw [if_neg (by omega), if_neg (by omega), if_neg (by omega), if_pos h.1, if_pos ⟨by omega, h.2.2⟩]
      obtain ⟨c', e1, e2, e3⟩ := ih (b + 1) (cP c, cN c, cR c, cS c, cB c, B.2.2.1 (cW c) o b y) (by
        have ll : (y :: l).length = l.length + 1 := rfl
        rw [ll] at hl
        refine Or.inr ⟨k, ?_⟩
        rcases hl with h | h | h
        · exact Or.inl ⟨h.1, by omega⟩
        · refine Or.inr (Or.inl ⟨h.1, ?_⟩)
          show b + 1 + l.length ≤ B.1 (B.2.2.1 (cW c) o b y)
          rw [hb.1]; omega
        · refine Or.inr (Or.inr ⟨h.1, by omega, ?_⟩)
          show B.2.2.2.1 (B.2.2.1 (cW c) o b y) (o - 300) = true
          rw [hb.2.1]; exact h.2.2)
      refine ⟨c', ?_, ⟨e2.1, e2.2.1.trans hb.1, e2.2.2.1.trans hb.2.1, e2.2.2.2.trans hb.2.2⟩, e3⟩
      unfold wrL
      rw [e]
      exact e1
/-- a machine that has the same stacks -/
theorem gS_same {c' : TC W} (h : gS B E th tp S c) (hc : sameC B c c') (hs : cS c' = cS c) : gS B E th tp S c' := by
  obtain ⟨⟨p1, p2, p3, p4⟩, q1, q2, q3⟩ := hc
  obtain ⟨h1, h2, h3, h4, h5, h6, h7, h8⟩ := h
  refine ⟨p2.trans h1, ?_, ?_, ?_, ?_, h6, ?_, h8⟩
  · rw [q1, q3, p3]; exact h2
  · rw [q1, q3, hs]; exact h3
  · rw [p4]; exact h4
  · rw [q2]; exact h5
  · rw [hs]; exact h7
theorem fold_or (P : Nat → Prop) {D : DecidablePred P} (m j : Nat) : ∀ n : Nat, ((List.range n).foldl (fun (a : Nat) i => @ite _ (P i) (D i) (a ||| 1 <<< i) a) m).testBit j = (m.testBit j || (decide (j < n) && @decide (P j) (D j))) := by
  intro n
  induction n with
  | zero => simp
  | succ n ih =>
    rw [List.range_succ, List.foldl_append]
    show (@ite _ (P n) (D n) (_ ||| 1 <<< n) _).testBit j = _
    by_cases p : P n
    · rw [if_pos p, Nat.testBit_or, ih, Nat.one_shiftLeft, Nat.testBit_two_pow]
      by_cases e : n = j
      · subst e
        simp [p]
      · have : (j < n + 1) = (j < n) := by
          apply propext
          omega
        simp [e, this]
    · rw [if_neg p, ih]
      by_cases e : j = n
      · subst e
        simp [p]
      · have : (j < n + 1) = (j < n) := by
          apply propext
          omega
        simp [this]
end ST1
