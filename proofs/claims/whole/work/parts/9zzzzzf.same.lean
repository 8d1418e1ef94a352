/-! ===== judge and print look at words within the program alone ===== -/
section SAME
variable {E : EV} {p p' : Nat → B64} {n i j : Nat} {S : Nat → Bool} {r : JD}
theorem any_e {f g : Nat → Bool} : ∀ (L : List Nat), (∀ x, x ∈ L → f x = g x) → L.any f = L.any g := by
  intro L
  induction L with
  | nil => intro _; rfl
  | cons a L ih =>
    intro h
    rw [List.any_cons, List.any_cons, h a (List.mem_cons_self ..), ih (fun x hx => h x (List.mem_cons_of_mem _ hx))]
theorem spn_e (e : ∀ j, j < n → p j = p' j) (hi : i < n) : spn p n i = spn p' n i := by
  unfold spn
  by_cases c : i + 1 < n
  · rw [e i hi, e (i + 1) c]
  · rw [e i hi]
    by_cases q : fOp (p' i) = 24
    · rw [if_pos q, if_pos q, if_neg (fun z => c z.1), if_neg (fun z => c z.1)]
    · rw [if_neg q, if_neg q]
theorem spn_t (h : spn p n i = 2) : i + 1 < n := by
  unfold spn at h
  by_cases q : fOp (p i) = 24
  · rw [if_pos q] at h
    by_cases c : i + 1 < n ∧ okPr (p i) (p (i + 1))
    · exact c.1
    · rw [if_neg c] at h
      exact absurd h (by decide)
  · rw [if_neg q] at h
    split at h <;> exact absurd h (by decide)
theorem frm_e (e : ∀ j, j < n → p j = p' j) : ∀ (f i : Nat) (S : Nat → Bool), frmP p n f i S = frmP p' n f i S := by
  intro f
  induction f with
  | zero => intro i S; rfl
  | succ f ih =>
    intro i S
    unfold frmP
    by_cases c : n ≤ i
    · rw [if_pos c, if_pos c]
    · rw [if_neg c, if_neg c, spn_e e (by omega), ih]
theorem bgn_e (e : ∀ j, j < n → p j = p' j) : bgnP p n S = bgnP p' n S := funext fun j => by
  unfold bgnP
  rw [any_e (g := fun i => S i && decide (isCal (p' i) ∧ goal i (p' i) = j)) (List.range n) (fun x hx => by rw [e x (List.mem_range.mp hx)])]
theorem joi_e (e : ∀ j, j < n → p j = p' j) (x : Int) : joiP p n S x = joiP p' n S x := by
  unfold joiP
  rw [any_e (g := fun i => S i && decide (ledO (p' i) ∧ goal i (p' i) = x)) (List.range n) (fun x hx => by rw [e x (List.mem_range.mp hx)])]
theorem god_e (e : ∀ j, j < n → p j = p' j) (hi : i < n) : godP p n S i = godP p' n S i := by
  unfold godP
  rw [bgn_e e, e i hi, spn_e e hi]
theorem plc_e (e : ∀ j, j < n → p j = p' j) : ∀ (f i : Nat), plcP p n S f i = plcP p' n S f i := by
  intro f
  induction f with
  | zero => intro i; rfl
  | succ f ih =>
    intro i
    unfold plcP
    by_cases c : n ≤ i
    · rw [if_pos c, if_pos c]
    · rw [if_neg c, if_neg c, god_e e (by omega), ih]
theorem prA_e (e : ∀ j, j < n → p j = p' j) : ∀ (f i : Nat), prA p n f i = prA p' n f i := by
  intro f
  induction f with
  | zero => intro i; rfl
  | succ f ih =>
    intro i
    unfold prA
    by_cases c : i < n
    · rw [if_pos c, if_pos c, spn_e e c, ih, e i c]
      by_cases q : spn p' n i = 2
      · rw [e (i + 1) (spn_t q)]
      · rw [if_neg q, if_neg q, if_neg q]
    · rw [if_neg c, if_neg c]
theorem stp_pe {E : EV} {S : ST} {a t : Int} {w w2 w3 : B64} (h : fL w = 0 → w2 = w3) : stpJ E S a w w2 t = stpJ E S a w w3 t := by
  by_cases c : fL w = 0
  · rw [h c]
  · unfold stpJ
    rw [if_neg c, if_neg c]
theorem ins_pe {q q' : Int → B64} {w : WK} (h1 : q (yA w) = q' (yA w)) (h2 : fL (q (yA w)) = 0 → q (yA w + 1) = q' (yA w + 1)) : insK E q w = insK E q' w := by
  unfold insK
  rw [stp_pe (w3 := q' (yA w + 1)) h2, h1]
theorem wlk_e {G : Int → Prop} {q q' : Int → B64} {J : Int → Bool} {S0 : ST} (hE : okE E) (hp : okP G q) (e : ∀ i, G i → q i = q' i ∧ (fL (q i) = 0 → q (i + 1) = q' (i + 1))) : ∀ (n : Nat) (first : Bool) (w w' : WK) (D : Nat → Int) (f : Int), INV dumB dumH E q id S0 G w D → wlkK E q J n first w = some (f, w') → wlkK E q' J n first w = some (f, w') := by
  intro n
  induction n with
  | zero => intro first w w' D f _ h; cases h
  | succ n ih =>
    intro first w w' D f I h
    obtain ⟨m, em⟩ : ∃ m, m = (if J (yA w) = true ∧ first = false then meeK w else (0, false, w)) := ⟨_, rfl⟩
    have mx : m.1 = 0 → m.2.1 = false → ∃ D, INV dumB dumH E q id S0 G m.2.2 D := fun z1 z2 => by
      by_cases c : J (yA w) = true ∧ first = false
      · rw [if_pos c] at em
        rw [em] at z1 z2 ⊢
        exact (mee_i I z1).1 z2
      · rw [if_neg c] at em
        rw [em]
        exact ⟨D, I⟩
    have mp : m.1 = 0 → m.2.1 = true → ¬ yM m.2.2 = 0 → ∃ D, INV dumB dumH E q id S0 G (popK m.2.2) D := fun z1 z2 z3 => by
      by_cases c : J (yA w) = true ∧ first = false
      · rw [if_pos c] at em
        rw [em] at z1 z2 z3 ⊢
        exact ((mee_i I z1).2 z2).2 z3
      · rw [if_neg c] at em
        rw [em] at z2
        cases z2
    have ei : itrK E q J first w = (if ¬ m.1 = 0 then (m.1, false, m.2.2)
        else
          let s := if m.2.1 = true then (0, true, m.2.2) else insK E q m.2.2
          if ¬ s.1 = 0 then (s.1, false, s.2.2)
          else if s.2.1 = true then (if yM s.2.2 = 0 then (0, true, s.2.2) else (0, false, popK s.2.2))
          else (0, false, s.2.2)) := by rw [em]; rfl
    have ei' : itrK E q' J first w = (if ¬ m.1 = 0 then (m.1, false, m.2.2)
        else
          let s := if m.2.1 = true then (0, true, m.2.2) else insK E q' m.2.2
          if ¬ s.1 = 0 then (s.1, false, s.2.2)
          else if s.2.1 = true then (if yM s.2.2 = 0 then (0, true, s.2.2) else (0, false, popK s.2.2))
          else (0, false, s.2.2)) := by rw [em]; rfl
    have ie : m.1 = 0 → m.2.1 = false → insK E q m.2.2 = insK E q' m.2.2 := fun z1 z2 => by
      obtain ⟨D1, I1⟩ := mx z1 z2
      obtain ⟨a1, a2⟩ := e _ I1.2.2.2.2.2.1.2.2.2
      exact ins_pe a1 a2
    have es : itrK E q' J first w = itrK E q J first w := by
      rw [ei, ei']
      by_cases z1 : m.1 = 0
      · by_cases z2 : m.2.1 = true
        · simp only [z2, if_true]
        · have z2' : m.2.1 = false := by
            cases hb : m.2.1
            · rfl
            · exact absurd hb z2
          rw [ie z1 z2']
      · rw [if_pos z1, if_pos z1]
    have nx : (itrK E q J first w).1 = 0 → ¬ (itrK E q J first w).2.1 = true → ∃ D, INV dumB dumH E q id S0 G (itrK E q J first w).2.2 D := fun y1 y2 => by
      rw [ei] at y1 y2 ⊢
      simp only at y1 y2 ⊢
      by_cases z1 : m.1 = 0
      · rw [if_neg (not_not_intro z1)] at y1 y2 ⊢
        by_cases z2 : m.2.1 = true
        · rw [if_pos z2] at y1 y2 ⊢
          rw [if_neg (not_not_intro rfl), if_pos rfl] at y2 ⊢
          by_cases z3 : yM m.2.2 = 0
          · rw [if_pos z3] at y2
            exact absurd rfl y2
          · rw [if_neg z3]
            exact mp z1 z2 z3
        · have z2' : m.2.1 = false := by
            cases hb : m.2.1
            · rfl
            · exact absurd hb z2
          obtain ⟨D1, I1⟩ := mx z1 z2'
          have ii := ins_i dum_B dum_H hE (fun _ => ⟨rfl, rfl, rfl⟩) hp I1
          rw [if_neg z2] at y1 y2 ⊢
          by_cases u1 : (insK E q m.2.2).1 = 0
          · rw [if_neg (not_not_intro u1)] at y2 ⊢
            by_cases u2 : (insK E q m.2.2).2.1 = true
            · rw [if_pos u2] at y2 ⊢
              by_cases u3 : yM (insK E q m.2.2).2.2 = 0
              · rw [if_pos u3] at y2
                exact absurd rfl y2
              · rw [if_neg u3]
                exact ((ii u1).2 u2).2 u3
            · have u2' : (insK E q m.2.2).2.1 = false := by
                cases hb : (insK E q m.2.2).2.1
                · rfl
                · exact absurd hb u2
              rw [if_neg u2]
              exact (ii u1).1 u2'
          · rw [if_pos u1] at y1
            exact absurd y1 u1
      · rw [if_pos z1] at y1
        exact absurd y1 z1
    unfold wlkK at h ⊢
    rw [es]
    by_cases y1 : (itrK E q J first w).1 = 0
    · by_cases y2 : (itrK E q J first w).2.1 = true
      · rw [if_neg (not_not_intro y1), if_pos y2] at h ⊢
        exact h
      · rw [if_neg (not_not_intro y1), if_neg y2] at h ⊢
        obtain ⟨D1, I1⟩ := nx y1 y2
        exact ih false _ w' D1 f I1 h
    · rw [if_pos y1] at h ⊢
      exact h
theorem okp_n (n0 : 0 < n) (hf : frmP p n (n + 1) 0 (fun _ => false) = (none, S)) (hc : plcP p n S (n + 1) 0 = none) : okP (GP n S) (fun i => p i.toNat) ∧ GP n S 0 :=
  ⟨okP_of (p := p) (n := n) hf (fun i hi hS' => plc_n (n + 1) 0 (by omega) hc i (Nat.zero_le _) hi hS'), ⟨Int.le_refl _, by omega⟩, (frm_s _ _ _ _ hf (by omega)).2.1 n0⟩
theorem beg_n (n0 : 0 < n) (hf : frmP p n (n + 1) 0 (fun _ => false) = (none, S)) (hc : plcP p n S (n + 1) 0 = none) : INV dumB dumH E (fun i => p i.toNat) id S0J (GP n S) (begK S0J) (fun _ => 0) :=
  beg_i ⟨S0_ok, S0_m, fun f f1 f2 => by
    have f2 : f < 1 := f2
    exfalso
    omega, (okp_n n0 hf hc).2⟩
theorem wlk_pe (hE : okE E) (n0 : 0 < n) (e : ∀ j, j < n → p j = p' j) (hf : frmP p n (n + 1) 0 (fun _ => false) = (none, S)) (hc : plcP p n S (n + 1) 0 = none) {f : Nat} {x : Int} {w : WK} (hw : wlkK E (fun i => p i.toNat) (fun j => joiP p n S j) f true (begK S0J) = some (x, w)) : wlkK E (fun i => p' i.toNat) (fun j => joiP p' n S j) f true (begK S0J) = some (x, w) := by
  obtain ⟨okp, g0⟩ := okp_n n0 hf hc
  rw [show (fun j => joiP p' n S j) = fun j => joiP p n S j from funext fun j => (joi_e e j).symm]
  refine wlk_e hE okp (fun i gi => ⟨e _ (by have := gi.1; omega), fun z => ?_⟩) f true _ w _ x (beg_n n0 hf hc) hw
  have g2 := (okp i gi).2.1 z
  exact e _ (by have := g2.1; have := gi.1; omega)
theorem judR_e (hE : okE E) (n0 : 0 < n) (e : ∀ j, j < n → p j = p' j) (h : judR E p n r) : judR E p' n r := by
  unfold judR at h ⊢
  rw [← frm_e e (n + 1) 0 (fun _ => false)]
  rcases h with h | ⟨S, hf, h⟩
  · exact Or.inl h
  · refine Or.inr ⟨S, hf, ?_⟩
    rw [← plc_e e (n + 1) 0]
    rcases h with h | ⟨hc, f, x, w, hw, hr⟩
    · exact Or.inl h
    · exact Or.inr ⟨hc, f, x, w, wlk_pe hE n0 e hf hc hw, hr⟩
end SAME
