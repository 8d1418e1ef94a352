/-! ===== the class's plain code: a program ===== -/
/-- what one turn lays -/
noncomputable def wQ (p : Nat → B64) (n i P : Nat) : List Q4 := if spn p n i = 2 then parQ (p i) (p (i + 1)) else worQ (p i) (tgC n i (p i)) P
/-- where words are laid -/
noncomputable def layP (p : Nat → B64) (n : Nat) : Nat → Nat → Nat → List (Nat × Nat)
  | 0, _, _ => []
  | f + 1, i, P => if n ≤ i then [] else (i, P) :: layP p n f (i + spn p n i) (P + (wQ p n i P).length)
/-- how many operations are laid -/
noncomputable def layN (p : Nat → B64) (n : Nat) : Nat → Nat → Nat → Nat
  | 0, _, P => P
  | f + 1, i, P => if n ≤ i then P else layN p n f (i + spn p n i) (P + (wQ p n i P).length)
def qok (n : Nat) (q : Q4) : Prop := 0 ≤ q.1 ∧ q.1 < 65536 ∨ (131072 ≤ q.1 ∧ q.1 < 196608) ∧ 0 ≤ q.2.1 ∧ q.2.1 < (n : Int)
def okop (o a : Int) : Prop := 0 ≤ o ∧ o < 131072 ∨ (131072 ≤ o ∧ o < 262144) ∧ 0 ≤ a ∧ a < 200
def emD (σ : MS) (K N : Nat) : Prop := gR σ 72 3 = some K ∧ kd σ K = (3, 4800) ∧ 153 ≤ K ∧ gI σ 72 4 = (N : Int)
def opnQ (σ : MS) (K N : Nat) (L : List Q4) : Prop := ∀ j, j < L.length → gI σ K (4 * (N + j)) = (L.getD j q40).1 + (if j = 0 then 65536 else 0) ∧ gI σ K (4 * (N + j) + 1) = (L.getD j q40).2.1 ∧ gI σ K (4 * (N + j) + 2) = (L.getD j q40).2.2.1 ∧ gI σ K (4 * (N + j) + 3) = (L.getD j q40).2.2.2
def laid (σ : MS) (K : Nat) (l : List (Nat × Nat)) (p : Nat → B64) (n : Nat) : Prop := ∀ x ∈ l, gI σ 75 x.1 = (x.2 : Int) ∧ opnQ σ K x.2 (wQ p n x.1 x.2)
section CEML
variable {σ τ ρ υ : MS} {w w2 : B64} {m n i j s t N K P Q : Nat} {a b c o x y tt : Int} {L L1 L2 : List Q4} {p : Nat → B64} {q : Q4} {S S0 : Nat → Bool}
theorem byt_r : bytN w ≤ 8 := by
  unfold bytN
  repeat' split
  all_goals omega
theorem qk_n : ∀ q ∈ ([] : List Q4), qok n q := fun q h => by cases h
theorem qk_c (h : qok n q) (hl : ∀ r ∈ L, qok n r) : ∀ r ∈ q :: L, qok n r := fun r hr => by
  rcases List.mem_cons.mp hr with e | e
  · rw [e]
    exact h
  · exact hl r e
theorem qk_a (h1 : ∀ q ∈ L1, qok n q) (h2 : ∀ q ∈ L2, qok n q) : ∀ q ∈ L1 ++ L2, qok n q := fun r hr => by
  rcases List.mem_append.mp hr with e | e
  · exact h1 r e
  · exact h2 r e
theorem qk_1 (h0 : 0 ≤ o) (h1 : o < 65536) : qok n (o, a, b, c) := Or.inl ⟨h0, h1⟩
theorem qk_s : qok n (setQ a b) := Or.inl ⟨Int.le_refl 0, by show (0 : Int) < 65536; decide⟩
theorem qk_m (h0 : 0 ≤ o) (h1 : o < 100) : qok n (memQ o w a b) := Or.inl (by
  have := byt_r (w := w)
  show 0 ≤ o + 256 * ((bytN w : Nat) : Int) ∧ o + 256 * ((bytN w : Nat) : Int) < 65536
  constructor <;> omega)
theorem qk_h {sg : Prop} {d : Decidable sg} : qok n (@hafQ a b sg d) := Or.inl (by
  show 0 ≤ (@ite _ sg d (16 : Int) 15) ∧ (@ite _ sg d (16 : Int) 15) < 65536
  split
  all_goals decide)
theorem qk_p : qok n (opQ c o, a, b, x) := by
  have := opQ_r (c := c) (o := o)
  exact qk_1 (by omega) (by omega)
theorem qk_i {d : Prop} [Decidable d] (h0 : 0 ≤ a ∧ a < 65536) (h1 : 0 ≤ b ∧ b < 65536) : qok n (if d then a else b, x, y, c) := Or.inl (by
  show 0 ≤ (if d then a else b) ∧ (if d then a else b) < 65536
  split
  · exact h0
  · exact h1)
theorem sidL_k : ∀ q ∈ sidL w, qok n q := by
  unfold sidL
  split
  · exact qk_n
  · exact qk_c qk_s qk_n
theorem ordQ_k : ∀ q ∈ ordQ w, qok n q := by
  unfold ordQ
  repeat' split
  · exact qk_c qk_s (qk_c (qk_1 (by decide) (by decide)) qk_n)
  · exact qk_c (qk_1 (by decide) (by decide)) qk_n
  · exact qk_c (qk_1 (by decide) (by decide)) qk_n
  · exact qk_c (qk_1 (by decide) (by decide)) qk_n
theorem ordQ_l : (ordQ w).length ≤ 2 := by
  unfold ordQ
  repeat' split
  all_goals (simp only [List.length_cons, List.length_nil]; try omega)
theorem halQ_k : ∀ q ∈ halQ w y, qok n q := by
  unfold halQ
  split
  · exact qk_c qk_h (qk_c qk_h (qk_c qk_p qk_n))
  · split
    · exact qk_c qk_s (qk_c (qk_1 (by decide) (by decide)) (qk_c qk_h (qk_c qk_p qk_n)))
    · exact qk_c qk_p qk_n
theorem aluQ_k : ∀ q ∈ aluQ w, qok n q := by
  unfold aluQ
  split
  · exact ordQ_k
  · refine qk_a ?_ ?_
    · split
      · exact qk_c qk_s (qk_c (qk_1 (by decide) (by decide)) qk_n)
      · split
        · exact qk_a sidL_k (qk_c (qk_i (by decide) (by decide)) qk_n)
        · split
          · exact qk_a sidL_k (qk_c qk_p qk_n)
          · exact qk_a sidL_k halQ_k
    · split
      · exact qk_n
      · exact qk_c (qk_1 (by decide) (by decide)) qk_n
theorem aluQ_l : (aluQ w).length ≤ 6 := by
  have s1 := sidL_l (w := w)
  have h4 := halQ_l (w := w) (y := sidR w)
  unfold aluQ
  split
  · have := ordQ_l (w := w)
    omega
  · rw [List.length_append]
    show _ ≤ 5 + 1
    refine Nat.add_le_add ?_ ?_
    · split
      · simp only [List.length_cons, List.length_nil]
        omega
      · split
        · rw [List.length_append]
          simp only [List.length_cons, List.length_nil]
          omega
        · split
          · rw [List.length_append]
            simp only [List.length_cons, List.length_nil]
            omega
          · rw [List.length_append]
            omega
    · split
      · exact Nat.zero_le 1
      · exact Nat.le_refl 1
theorem lodQ_k : ∀ q ∈ lodQ w, qok n q := by
  unfold lodQ
  refine qk_c (qk_m (by decide) (by decide)) ?_
  split
  · exact qk_c (qk_1 (by decide) (by decide)) qk_n
  · exact qk_n
theorem lodQ_l : (lodQ w).length ≤ 2 := by
  unfold lodQ
  split
  all_goals (simp only [List.length_cons, List.length_nil]; try omega)
theorem qk_21 : qok n (21, x, y, c) := qk_1 (by decide) (by decide)
theorem stoQ_k : ∀ q ∈ stoQ w N, qok n q := by
  unfold stoQ
  split
  · exact qk_c (qk_m (by decide) (by decide)) qk_n
  · refine qk_c (qk_m (by decide) (by decide)) ?_
    split
    · exact qk_c (qk_i (by decide) (by decide)) (qk_c qk_21 (qk_c (qk_m (by decide) (by decide)) (qk_c (qk_1 (by decide) (by decide)) qk_n)))
    · refine qk_a ?_ ?_
      · split
        · exact qk_c (qk_m (by decide) (by decide)) qk_n
        · exact qk_c qk_p (qk_c (qk_m (by decide) (by decide)) qk_n)
      · split
        · exact qk_c (qk_1 (by decide) (by decide)) qk_n
        · exact qk_n
theorem stoQ_l : (stoQ w N).length ≤ 5 := by
  unfold stoQ
  repeat' split
  all_goals (simp only [List.length_append, List.length_cons, List.length_nil]; try omega)
theorem qk_t (h0 : 0 ≤ o) (h1 : o < 65536) (t0 : ¬ tt < 0) (tn : tt < (n : Int)) : qok n (o + 131072, tt, b, c) := Or.inr (by
  show (131072 ≤ o + 131072 ∧ o + 131072 < 196608) ∧ 0 ≤ tt ∧ tt < (n : Int)
  refine ⟨⟨?_, ?_⟩, ?_, ?_⟩ <;> omega)
theorem qk_q (t0 : ¬ tt < 0) (tn : tt < (n : Int)) : qok n (cnqQ c tt x y) := by
  have := cndQ_r (c := c)
  exact qk_t (by omega) (by omega) t0 tn
theorem jmpQ_k (tn : tt < (n : Int)) : ∀ q ∈ jmpQ w tt, qok n q := by
  unfold jmpQ
  split
  · exact qk_c (qk_1 (by decide) (by decide)) qk_n
  · split
    · exact qk_c (qk_1 (by decide) (by decide)) qk_n
    · split
      · exact qk_c (qk_1 (by decide) (by decide)) qk_n
      · rename_i t0
        split
        · exact qk_c (qk_t (by decide) (by decide) t0 tn) qk_n
        · split
          · exact qk_c (qk_t (by decide) (by decide) t0 tn) qk_n
          · refine qk_a sidL_k ?_
            split
            · exact qk_c qk_h (qk_c qk_h (qk_c (qk_q t0 tn) qk_n))
            · exact qk_c (qk_q t0 tn) qk_n
theorem jmpQ_l : (jmpQ w tt).length ≤ 4 := by
  have s1 := sidL_l (w := w)
  unfold jmpQ
  repeat' split
  all_goals (simp only [List.length_append, List.length_cons, List.length_nil]; try omega)
theorem tgC_r : tgC n i w < (n : Int) := by
  unfold tgC
  split <;> omega
theorem wQ_k : ∀ q ∈ wQ p n i P, qok n q := by
  unfold wQ
  split
  · unfold parQ
    split
    · exact qk_c qk_s qk_n
    · exact qk_c (qk_1 (by decide) (by decide)) qk_n
  · unfold worQ
    split
    · exact lodQ_k
    · split
      · exact qk_c qk_s (qk_c (qk_m (by decide) (by decide)) qk_n)
      · split
        · exact stoQ_k
        · split
          · exact jmpQ_k tgC_r
          · exact aluQ_k
theorem wQ_l : (wQ p n i P).length ≤ 6 := by
  unfold wQ
  split
  · unfold parQ
    split
    all_goals (simp only [List.length_cons, List.length_nil]; omega)
  · have a1 := lodQ_l (w := p i)
    have a2 := stoQ_l (w := p i) (N := P)
    have a3 := jmpQ_l (w := p i) (tt := tgC n i (p i))
    have a4 := aluQ_l (w := p i)
    unfold worQ
    repeat' split
    all_goals (first | omega | (simp only [List.length_cons, List.length_nil]; omega))
/-! where words are laid -/
theorem spn_in (h : ¬ spn p n i = 0) (hi : i < n) : i + spn p n i ≤ n ∧ (spn p n i = 1 ∧ okPl (p i) ∨ spn p n i = 2 ∧ i + 1 < n ∧ okPr (p i) (p (i + 1))) := by
  unfold spn at h ⊢
  by_cases o : fOp (p i) = 24
  · rw [if_pos o] at h ⊢
    by_cases c : i + 1 < n ∧ okPr (p i) (p (i + 1))
    · rw [if_pos c]
      exact ⟨by omega, Or.inr ⟨rfl, c⟩⟩
    · rw [if_neg c] at h
      exact absurd rfl h
  · rw [if_neg o] at h ⊢
    by_cases c : okPl (p i)
    · rw [if_pos c]
      exact ⟨by omega, Or.inl ⟨rfl, c⟩⟩
    · rw [if_neg c] at h
      exact absurd rfl h
theorem lay_r : ∀ (f i P : Nat) (S0 : Nat → Bool), frmP p n f i S0 = (none, S) → i ≤ n → n ≤ i + f → P ≤ layN p n f i P ∧ layN p n f i P ≤ P + 6 * (n - i) ∧ ∀ x ∈ layP p n f i P, i ≤ x.1 ∧ x.1 < n ∧ P ≤ x.2 ∧ x.2 + (wQ p n x.1 x.2).length ≤ layN p n f i P ∧ ¬ spn p n x.1 = 0 := by
  intro f
  induction f with
  | zero =>
    intro i P S0 h h0 hf
    exact ⟨Nat.le_refl _, by show P ≤ _; omega, fun x hx => by cases hx⟩
  | succ f ih =>
    intro i P S0 h h0 hf
    unfold frmP at h
    by_cases c : n ≤ i
    · have e1 : layN p n (f + 1) i P = P := if_pos c
      have e2 : layP p n (f + 1) i P = [] := if_pos c
      rw [e1, e2]
      exact ⟨Nat.le_refl _, by omega, fun x hx => by cases hx⟩
    · have e1 : layN p n (f + 1) i P = layN p n f (i + spn p n i) (P + (wQ p n i P).length) := if_neg c
      have e2 : layP p n (f + 1) i P = (i, P) :: layP p n f (i + spn p n i) (P + (wQ p n i P).length) := if_neg c
      rw [if_neg c] at h
      by_cases z : spn p n i = 0
      · rw [if_pos z] at h
        cases h
      · rw [if_neg z] at h
        have si := spn_in z (by omega)
        have wl := wQ_l (p := p) (n := n) (i := i) (P := P)
        obtain ⟨b1, b2, b3⟩ := ih (i + spn p n i) (P + (wQ p n i P).length) _ h si.1 (by omega)
        rw [e1, e2]
        refine ⟨by omega, by omega, fun x hx => ?_⟩
        rcases List.mem_cons.mp hx with e | e
        · rw [e]
          exact ⟨Nat.le_refl i, by omega, Nat.le_refl P, b1, z⟩
        · have := b3 x e
          exact ⟨by omega, this.2.1, by omega, this.2.2.2⟩
theorem lay_S : ∀ (f i P : Nat) (S0 : Nat → Bool), frmP p n f i S0 = (none, S) → ∀ j, S j = true → S0 j = true ∨ ∃ Q, (j, Q) ∈ layP p n f i P := by
  intro f
  induction f with
  | zero =>
    intro i P S0 h j hj
    cases h
    exact Or.inl hj
  | succ f ih =>
    intro i P S0 h j hj
    unfold frmP at h
    by_cases c : n ≤ i
    · rw [if_pos c] at h
      cases h
      exact Or.inl hj
    · have e2 : layP p n (f + 1) i P = (i, P) :: layP p n f (i + spn p n i) (P + (wQ p n i P).length) := if_neg c
      rw [if_neg c] at h
      by_cases z : spn p n i = 0
      · rw [if_pos z] at h
        cases h
      · rw [if_neg z] at h
        rw [e2]
        rcases ih _ (P + (wQ p n i P).length) _ h j hj with g | ⟨Q, g⟩
        · have g : (if j = i then true else S0 j) = true := g
          by_cases ji : j = i
          · exact Or.inr ⟨P, by rw [ji]; exact List.mem_cons_self ..⟩
          · rw [if_neg ji] at g
            exact Or.inl g
        · exact Or.inr ⟨Q, List.mem_cons_of_mem _ g⟩
theorem lay_h (c : ¬ n ≤ i) : (i, P) ∈ layP p n (m + 1) i P := by
  have e2 : layP p n (m + 1) i P = (i, P) :: layP p n m (i + spn p n i) (P + (wQ p n i P).length) := if_neg c
  rw [e2]
  exact List.mem_cons_self ..
theorem lay_n : ∀ (f i P : Nat) (S0 : Nat → Bool), frmP p n f i S0 = (none, S) → n ≤ i + f → ∀ j Q, (j, Q) ∈ layP p n f i P → j + spn p n j < n → (j + spn p n j, Q + (wQ p n j Q).length) ∈ layP p n f i P := by
  intro f
  induction f with
  | zero => intro i P S0 h hf j Q hx; cases hx
  | succ f ih =>
    intro i P S0 h hf j Q hx hj
    unfold frmP at h
    by_cases c : n ≤ i
    · have e2 : layP p n (f + 1) i P = [] := if_pos c
      rw [e2] at hx
      cases hx
    · have e2 : layP p n (f + 1) i P = (i, P) :: layP p n f (i + spn p n i) (P + (wQ p n i P).length) := if_neg c
      rw [if_neg c] at h
      by_cases z : spn p n i = 0
      · rw [if_pos z] at h
        cases h
      · rw [if_neg z] at h
        rw [e2] at hx ⊢
        rcases List.mem_cons.mp hx with e | e
        · cases e
          cases f with
          | zero => exact absurd hf (by omega)
          | succ f => exact List.mem_cons_of_mem _ (lay_h (by omega))
        · exact List.mem_cons_of_mem _ (ih _ _ _ h (by omega) j Q e hj)
theorem getD_m (h : j < L.length) : L.getD j q40 ∈ L := by
  have e : L.getD j q40 = L[j] := (List.getElem_eq_getD q40).symm
  rw [e]
  exact List.getElem_mem h
end CEML
