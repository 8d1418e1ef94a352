/-! ===== the class's plain code: the turns that lay it ===== -/
section CEMP
variable {σ τ ρ υ ω : MS} {w w2 : B64} {m n f i j s t N K P Q : Nat} {a b c o x y tt : Int} {L L1 L2 : List Q4} {p : Nat → B64} {q : Q4} {S S0 : Nat → Bool}
/-- a turn of the laying: what stands, what stays -/
def ldt (τ υ : MS) (K : Nat) (p : Nat → B64) (n f i P : Nat) : Prop := υ.2 = τ.2 ∧ gI υ 72 4 = ((layN p n f i P : Nat) : Int) ∧ laid υ K (layP p n f i P) p n ∧ (∀ j, j < i → gI υ 75 j = gI τ 75 j) ∧ (∀ m, m < 4 * P → gI υ K m = gI τ K m) ∧ (∀ k m, ¬ (k = 72 ∧ (m = 4 ∨ m = 5)) → ¬ k = 75 → ¬ k = K → gI υ k m = gI τ k m) ∧ ∀ j, P ≤ j → j < layN p n f i P → okop (gI υ K (4 * j)) (gI υ K (4 * j + 1))
theorem ldt_c (c : ¬ n ≤ i) (n2 : n ≤ 200) (K3 : 153 ≤ K) (sp : 1 ≤ spn p n i) (c1 : ρ.2 = τ.2) (c2 : gI ρ 72 5 = 65536) (c3 : gI ρ 75 i = (P : Int)) (c4 : ∀ j, j < i → gI ρ 75 j = gI τ 75 j) (c5 : ∀ k m, ¬ (k = 72 ∧ (m = 4 ∨ m = 5)) → ¬ k = 75 → gI ρ k m = gI τ k m) (e : emP ρ ω K P (wQ p n i P)) (h : ldt ω υ K p n f (i + spn p n i) (P + (wQ p n i P).length)) : ldt τ υ K p n (f + 1) i P := by
  obtain ⟨a1, a2, a3, a4, a5⟩ := e
  obtain ⟨b1, b2, b3, b4, b5, b6, b7⟩ := h
  have e1 : layN p n (f + 1) i P = layN p n f (i + spn p n i) (P + (wQ p n i P).length) := if_neg c
  have e2 : layP p n (f + 1) i P = (i, P) :: layP p n f (i + spn p n i) (P + (wQ p n i P).length) := if_neg c
  have op : ∀ j, j < (wQ p n i P).length → gI υ K (4 * (P + j)) = ((wQ p n i P).getD j q40).1 + (if j = 0 then 65536 else 0) ∧ gI υ K (4 * (P + j) + 1) = ((wQ p n i P).getD j q40).2.1 ∧ gI υ K (4 * (P + j) + 2) = ((wQ p n i P).getD j q40).2.2.1 ∧ gI υ K (4 * (P + j) + 3) = ((wQ p n i P).getD j q40).2.2.2 := fun j hj => by
    have := a5 j hj
    rw [c2] at this
    rw [b5 _ (by omega), b5 _ (by omega), b5 _ (by omega), b5 _ (by omega)]
    exact this
  unfold ldt
  rw [e1, e2]
  refine ⟨b1.trans (a1.trans c1), b2, fun x hx => ?_, fun j hj => ?_, fun m hm => ?_, fun k m y1 y2 y3 => ?_, fun j h1 h2 => ?_⟩
  · rcases List.mem_cons.mp hx with g | g
    · rw [g]
      refine ⟨?_, op⟩
      show gI υ 75 i = _
      rw [b4 i (by omega), a4 75 i (by omega) (by omega)]
      exact c3
    · exact b3 x g
  · rw [b4 j (by omega), a4 75 j (by omega) (by omega)]
    exact c4 j hj
  · rw [b5 m (by omega), a4 K m (by omega) (by omega)]
    exact c5 K m (by omega) (by omega)
  · rw [b6 k m y1 y2 y3, a4 k m y1 (by omega)]
    exact c5 k m y1 y2
  · by_cases l : j < P + (wQ p n i P).length
    · obtain ⟨d, hd⟩ : ∃ d, j = P + d := ⟨j - P, by omega⟩
      obtain ⟨o1, o2, _⟩ := op d (by omega)
      rw [hd, o1, o2]
      have k := wQ_k (p := p) (n := n) (i := i) (P := P) _ (getD_m (L := wQ p n i P) (j := d) (by omega))
      have fl : (if d = 0 then (65536 : Int) else 0) = 65536 ∨ (if d = 0 then (65536 : Int) else 0) = 0 := by
        split
        · exact Or.inl rfl
        · exact Or.inr rfl
      unfold qok at k
      unfold okop
      rcases k with k | k
      · refine Or.inl ?_
        omega
      · refine Or.inr ?_
        omega
    · exact b7 j (by omega) h2
theorem w200 (h : t < 400) : w32 ((t : Int) + 1) = ((t + 1 : Nat) : Int) := by
  rw [w32_i (by omega) (by omega)]
  rfl
theorem w201 (h : t < 400) : w32 ((t : Int) + 2) = ((t + 2 : Nat) : Int) := by
  rw [w32_i (by omega) (by omega)]
  rfl
theorem b200 (h : t < 200) : 0 ≤ (t : Int) ∧ (t : Int) < 200 := by omega
theorem L111 (s8 : s < 8) (n2 : n ≤ 200) (K3 : 153 ≤ K) : ∀ (f i t P : Nat) (S0 : Nat → Bool) (τ : MS), frmP p n f i S0 = (none, S) → n ≤ i + f → i ≤ n → t ≤ i → P ≤ 6 * i → emD τ K P → (∀ j, gL τ (7 + s) j = p j) →
    ∃ (i' t' : Int) (υ : MS), (∀ r, RR (lkB tb111) (B111_177, [some (mR (some 72)), some (mR (some 5)), some (mI (s : Int)), some (mR (some (7 + s))), some (mI (n : Int)), some (mI i'), some (mI t'), none], [], υ) = some r → RR (lkB tb111) (B111_66, [some (mR (some 72)), some (mR (some 5)), some (mI (s : Int)), some (mR (some (7 + s))), some (mI (n : Int)), some (mI (i : Int)), some (mI (t : Int)), none], [], τ) = some r) ∧ ldt τ υ K p n f i P := by
  intro f
  induction f with
  | zero =>
    intro i t P S0 τ h hf hi ht hP hD hp
    have c : (n : Int) ≤ (i : Int) := by omega
    refine ⟨(i : Int), (t : Int), τ, fun r hr => ?_, rfl, hD.2.2.2, fun x hx => (by cases hx), fun _ _ => rfl, fun _ _ => rfl, fun _ _ _ _ _ => rfl, fun j h1 h2 => absurd h2 (by show ¬ j < P; omega)⟩
    rw [e111_66]
    by_cases ct : (n : Int) ≤ (t : Int)
    · rw [if_pos ct]
      exact hr
    · rw [if_neg ct, if_pos c]
      exact hr
  | succ f ih =>
    intro i t P S0 τ h hf hi ht hP hD hp
    unfold frmP at h
    by_cases c : n ≤ i
    · have e1 : layN p n (f + 1) i P = P := if_pos c
      have e2 : layP p n (f + 1) i P = [] := if_pos c
      have ci : (n : Int) ≤ (i : Int) := by omega
      refine ⟨(i : Int), (t : Int), τ, fun r hr => ?_, ?_⟩
      · rw [e111_66]
        by_cases ct : (n : Int) ≤ (t : Int)
        · rw [if_pos ct]
          exact hr
        · rw [if_neg ct, if_pos ci]
          exact hr
      · unfold ldt
        rw [e1, e2]
        exact ⟨rfl, hD.2.2.2, fun x hx => (by cases hx), fun _ _ => rfl, fun _ _ => rfl, fun _ _ _ _ _ => rfl, fun j h1 h2 => absurd h2 (by omega)⟩
    · have ci : ¬ (n : Int) ≤ (i : Int) := by omega
      have ct : ¬ (n : Int) ≤ (t : Int) := by omega
      rw [if_neg c] at h
      by_cases z : spn p n i = 0
      · rw [if_pos z] at h
        cases h
      · rw [if_neg z] at h
        have il' : i < n := by omega
        have wl := wQ_l (p := p) (n := n) (i := i) (P := P)
        have f1 : n ≤ i + spn p n i + f := by omega
        have f2 : t + 1 ≤ i + spn p n i := by omega
        have f3 : P + (wQ p n i P).length ≤ 6 * (i + spn p n i) := by omega
        have f4 : 1 ≤ spn p n i := by omega
        have f5 : P < 1195 := by omega
        have f6 : i < 200 := by omega
        have f7 : i < n := by omega
        have b0 : 0 ≤ (i : Int) ∧ (i : Int) < 200 := by omega
        have f11 : t < 400 := by omega
        have wt : w32 ((t : Int) + 1) = ((t + 1 : Nat) : Int) := w200 f11
        have f12 : i < 400 := by omega
        have wi1 : w32 ((i : Int) + 1) = ((i + 1 : Nat) : Int) := w200 f12
        have wi2 : w32 ((i : Int) + 2) = ((i + 2 : Nat) : Int) := w201 f12
        clear wl
        have f8 : i + 1 < n → 0 ≤ ((i + 1 : Nat) : Int) ∧ ((i + 1 : Nat) : Int) < 200 := fun y => b200 (Nat.lt_of_lt_of_le y n2)
        have f9 : ∀ j, j < i → ¬ (75 = 75 ∧ j = i) := fun j hj z => absurd z.2 (Nat.ne_of_lt hj)
        have f10 : ∀ j, j < i → ¬ (75 = 75 ∧ j = i + 1) := fun j hj z => absurd z.2 (Nat.ne_of_lt (Nat.lt_succ_of_lt hj))
        have si := spn_in z il'
        obtain ⟨τ1, hτ1⟩ : ∃ τ1, τ1 = sI (sI τ 75 i (P : Int)) 72 5 65536 := ⟨_, rfl⟩
        have x1 : τ1.2 = τ.2 := by rw [hτ1]; rfl
        have g1 : ∀ k m, gI τ1 k m = if k = 72 ∧ m = 5 then 65536 else if k = 75 ∧ m = i then (P : Int) else gI τ k m := fun k m => by rw [hτ1, gI_sI, gI_sI]
        have L1 : ∀ (ρ : MS), ρ.2 = τ.2 → ∀ k j, gL ρ k j = gL τ k j := fun ρ e k j => by
          unfold gL
          rw [e]
        have R1 : ∀ (ρ : MS), ρ.2 = τ.2 → ∀ k j, gR ρ k j = gR τ k j := fun ρ e k j => by
          unfold gR
          rw [e]
        have K1 : ∀ (ρ : MS), ρ.2 = τ.2 → ∀ k, kd ρ k = kd τ k := fun ρ e k => by
          unfold kd
          rw [e]
        have gc : ∀ (ρ : MS) (j : Int), (Option.isSome (some (7 + s)) = true ∧ ab ρ 4 (7 + s) j) = (0 ≤ j ∧ j < 200) := fun ρ j => gcc (σ := ρ) (cc := 7 + s) ⟨by omega, by omega⟩
        have t6 := T6 (σ := τ1) (k := 7 + s) (n := n) (i := i) n2 f7 (gc τ1)
        rw [show (fun j => gL τ1 (7 + s) j) = p from funext fun j => (L1 _ x1 _ _).trans (hp j)] at t6
        have stp : ∀ (ρ ω : MS), ρ.2 = τ.2 → gI ρ 72 5 = 65536 → gI ρ 75 i = (P : Int) → (∀ j, j < i → gI ρ 75 j = gI τ 75 j) → (∀ k m, ¬ (k = 72 ∧ (m = 4 ∨ m = 5)) → ¬ k = 75 → gI ρ k m = gI τ k m) → emP ρ ω K P (wQ p n i P) → (∀ r, RR (lkB tb111) (B111_66, [some (mR (some 72)), some (mR (some 5)), some (mI (s : Int)), some (mR (some (7 + s))), some (mI (n : Int)), some (mI ((i + spn p n i : Nat) : Int)), some (mI ((t + 1 : Nat) : Int)), none], [], ω) = some r → RR (lkB tb111) (B111_66, [some (mR (some 72)), some (mR (some 5)), some (mI (s : Int)), some (mR (some (7 + s))), some (mI (n : Int)), some (mI (i : Int)), some (mI (t : Int)), none], [], τ) = some r) →
            ∃ (i' t' : Int) (υ : MS), (∀ r, RR (lkB tb111) (B111_177, [some (mR (some 72)), some (mR (some 5)), some (mI (s : Int)), some (mR (some (7 + s))), some (mI (n : Int)), some (mI i'), some (mI t'), none], [], υ) = some r → RR (lkB tb111) (B111_66, [some (mR (some 72)), some (mR (some 5)), some (mI (s : Int)), some (mR (some (7 + s))), some (mI (n : Int)), some (mI (i : Int)), some (mI (t : Int)), none], [], τ) = some r) ∧ ldt τ υ K p n (f + 1) i P := fun ρ ω c1 c2 c3 c4 c5 e rr => by
          have ω2 : ω.2 = τ.2 := e.1.trans c1
          obtain ⟨i', t', υ, r1, r2⟩ := ih (i + spn p n i) (t + 1) (P + (wQ p n i P).length) _ ω h f1 si.1 f2 f3 ⟨(R1 _ ω2 _ _).trans hD.1, (K1 _ ω2 _).trans hD.2.1, hD.2.2.1, e.2.1⟩ (fun j => (L1 _ ω2 _ _).trans (hp j))
          exact ⟨i', t', υ, fun r hr => rr r (r1 r hr), ldt_c c n2 K3 f4 c1 c2 c3 c4 c5 e r2⟩
        have hτ1' : sI (sI τ 75 (Int.toNat (i : Int)) (gI τ 72 4)) 72 5 65536 = τ1 := by rw [hτ1, hD.2.2.2, Int.toNat_natCast]
        have q1 := g_75 (σ := τ) (i := (i : Int))
        have q3 := gc τ1 (i : Int)
        have pi : gL τ1 (7 + s) i = p i := (L1 _ x1 _ _).trans (hp i)
        rcases si.2 with ⟨s1, opl⟩ | ⟨s2, il, opr⟩
        · have wq : wQ p n i P = worQ (p i) (tgC n i (p i)) P := if_neg (by omega)
          have l0 : ¬ fL (p i) = 0 := fun y => by
            unfold okPl at opl
            rw [if_pos y] at opl
            exact opl
          have C : emC τ1 K P := ⟨(R1 _ x1 _ _).trans hD.1, (K1 _ x1 _).trans hD.2.1, hD.2.2.1, by rw [g1, if_neg (by omega), if_neg (by omega)]; exact hD.2.2.2, Or.inr (by rw [g1, if_pos ⟨rfl, rfl⟩])⟩
          obtain ⟨ω, t115, e⟩ := T115 (w := p i) (i := i) (n := n) f6 n2 l0 opl C f5
          rw [← wq] at e
          refine stp τ1 ω x1 (by rw [g1, if_pos ⟨rfl, rfl⟩]) (by rw [g1, if_neg (by omega), if_pos ⟨rfl, rfl⟩]) (fun j hj => by rw [g1, if_neg (fun z => absurd z.1 (by decide)), if_neg (f9 j hj)]) (fun k m y1 y2 => by rw [g1, if_neg (by omega), if_neg (by omega)]) e (fun r hr => ?_)
          rw [s1] at t6 hr
          have n12 : ¬ (((1 : Nat) : Int) = 2) := by decide
          rw [e111_66, if_neg ct, if_neg ci, if_pos (q1 ▸ b0), hτ1', t6]
          simp only [Option.getD_some, Option.bind_some, Option.toList_some, Option.toList_none, List.cons_append, List.nil_append, and_self, and_true, true_and, false_and, and_false, ite_self, not_true_eq_false, not_false_eq_true, reduceIte, Nat.reduceEqDiff, ab_I, ab_L, ab_R, ao_I, ao_L, ao_R, gL_sL, gI_sI, gR_sR, gI_sL, gI_sR, gL_sI, gL_sR, gR_sI, gR_sL]
          rw [e111_105, if_pos n12, if_pos (q3 ▸ b0), Option.getD_some, Int.toNat_natCast, pi, t115]
          simp only [Option.getD_some, Option.bind_some, Option.toList_some, Option.toList_none, List.cons_append, List.nil_append, and_self, and_true, true_and, false_and, and_false, ite_self, not_true_eq_false, not_false_eq_true, reduceIte, Nat.reduceEqDiff, ab_I, ab_L, ab_R, ao_I, ao_L, ao_R, gL_sL, gI_sI, gR_sR, gI_sL, gI_sR, gL_sI, gL_sR, gR_sI, gR_sL]
          rw [e111_155, if_pos n12, e111_168, wi1, wt]
          exact RR_q hr (by repeat (first | exact lq_nil | refine lq_cons (Or.inr rfl) ?_ | refine lq_cons (Or.inl rfl) ?_))
        · have wq : wQ p n i P = parQ (p i) (p (i + 1)) := if_pos s2
          have b1 := f8 il
          obtain ⟨τ2, hτ2⟩ : ∃ τ2, τ2 = sI τ1 75 (i + 1) (P : Int) := ⟨_, rfl⟩
          have x2 : τ2.2 = τ.2 := by rw [hτ2]; exact x1
          have g2 : ∀ k m, gI τ2 k m = if k = 75 ∧ m = i + 1 then (P : Int) else if k = 72 ∧ m = 5 then 65536 else if k = 75 ∧ m = i then (P : Int) else gI τ k m := fun k m => by rw [hτ2, gI_sI, g1]
          have C : emC τ2 K P := ⟨(R1 _ x2 _ _).trans hD.1, (K1 _ x2 _).trans hD.2.1, hD.2.2.1, by rw [g2, if_neg (by omega), if_neg (by omega), if_neg (by omega)]; exact hD.2.2.2, Or.inr (by rw [g2, if_neg (by omega), if_pos ⟨rfl, rfl⟩])⟩
          have fs : fS (p i) = 0 ∨ fS (p i) = 1 := by
            rcases opr.2 with z | z
            · exact Or.inl z
            · exact Or.inr z.1
          have fi : fS (p i) = 1 → 0 ≤ fI (p i) ∧ fI (p i) ≤ 7 := fun y => by
            rcases opr.2 with z | z
            · rw [y] at z
              exact absurd z (by decide)
            · exact ⟨z.2.1, z.2.2.1⟩
          obtain ⟨ω, t114, e⟩ := T114 (w := p i) (w2 := p (i + 1)) fs fi C (Nat.lt_trans f5 (by decide))
          rw [← wq] at e
          refine stp τ2 ω x2 (by rw [g2, if_neg (by omega), if_pos ⟨rfl, rfl⟩]) (by rw [g2, if_neg (fun z => absurd z.2 (Nat.ne_of_lt (Nat.lt_succ_self i))), if_neg (fun z => absurd z.1 (by decide)), if_pos ⟨rfl, rfl⟩]) (fun j hj => by rw [g2, if_neg (f10 j hj), if_neg (fun z => absurd z.1 (by decide)), if_neg (f9 j hj)]) (fun k m y1 y2 => by rw [g2, if_neg (by omega), if_neg (by omega), if_neg (by omega)]) e (fun r hr => ?_)
          rw [s2] at t6 hr
          have n22 : ¬ ¬ (((2 : Nat) : Int) = 2) := fun y => y rfl
          have q2 := g_75 (σ := τ1) (i := ((i + 1 : Nat) : Int))
          have q4 := gc τ2 (i : Int)
          have q5 := gc τ2 ((i + 1 : Nat) : Int)
          have pi2 : gL τ2 (7 + s) i = p i := (L1 _ x2 _ _).trans (hp i)
          have pj2 : gL τ2 (7 + s) (i + 1) = p (i + 1) := (L1 _ x2 _ _).trans (hp (i + 1))
          have p4 : gI τ1 72 4 = (P : Int) := by
            rw [g1, if_neg (by omega), if_neg (by omega)]
            exact hD.2.2.2
          have q3' : Option.isSome (some (7 + s)) = true ∧ ab τ1 4 (7 + s) (i : Int) := q3 ▸ b0
          have q5' : Option.isSome (some (7 + s)) = true ∧ ab τ1 4 (7 + s) ((i + 1 : Nat) : Int) := (gc τ1 ((i + 1 : Nat) : Int)) ▸ b1
          rw [e111_66, if_neg ct, if_neg ci, if_pos (q1 ▸ b0), hτ1', t6]
          simp only [Option.getD_some, Option.bind_some, Option.toList_some, Option.toList_none, List.cons_append, List.nil_append, and_self, and_true, true_and, false_and, and_false, ite_self, not_true_eq_false, not_false_eq_true, reduceIte, Nat.reduceEqDiff, ab_I, ab_L, ab_R, ao_I, ao_L, ao_R, gL_sL, gI_sI, gR_sR, gI_sL, gI_sR, gL_sI, gL_sR, gR_sI, gR_sL]
          rw [e111_105, if_neg n22, wi1, if_pos (q2 ▸ b1), Option.getD_some, if_pos q3', if_pos q5', p4, Int.toNat_natCast, Int.toNat_natCast, ← hτ2, pi2, pj2, t114]
          simp only [Option.getD_some, Option.bind_some, Option.toList_some, Option.toList_none, List.cons_append, List.nil_append, and_self, and_true, true_and, false_and, and_false, ite_self, not_true_eq_false, not_false_eq_true, reduceIte, Nat.reduceEqDiff, ab_I, ab_L, ab_R, ao_I, ao_L, ao_R, gL_sL, gI_sI, gR_sR, gI_sL, gI_sR, gL_sI, gL_sR, gR_sI, gR_sL]
          rw [e111_140, e111_155, if_neg n22, e111_168, wi2, wt]
          exact RR_q hr (by repeat (first | exact lq_nil | refine lq_cons (Or.inr rfl) ?_ | refine lq_cons (Or.inl rfl) ?_))
end CEMP
