/-! ===== THE WALK, step by step ===== -/
section WG
variable {W : Type} {B : WB W} {H : WH W} {E : EV} {p : Int → B64} {tk : W → W} {S0 : ST} {J : Int → Bool} {G : Int → Prop}
/-- what a machine must be -/
abbrev okT (B : WB W) (tk : W → W) : Prop := ∀ w, B.1 (tk w) = B.1 w ∧ B.2.2.2.1 (tk w) = B.2.2.2.1 w ∧ B.2.2.2.2 (tk w) = B.2.2.2.2 w
theorem far1 {f : Int} (h : 0 ≤ f) {Q : TC W → Prop} {R : TC W → Prop} {c : TC W} (hs : ∀ c, Q c → rch B H E p tk 1 R c) (h2 : rch B H E p tk f.toNat Q c) : rch B H E p tk (f + 1).toNat R c := by
  have := rch_add f.toNat 1 c (rch_mono hs _ _ h2)
  rwa [show f.toNat + 1 = (f + 1).toNat by omega] at this
/-- on one way -/
theorem one_i {w : WK} {D : Nat → Int} (h : INV B H E p tk S0 G w D) {S : ST} {n t' x1 x2 : Int} {x3 : Int → Option ST} (hs : ∀ c, gC B E (yS w) (yA w) c → rch B H E p tk 1 (gC B E S n) c) (hG : ¬ yG w = 4000) (ht : yT w ≤ t') (hg : goS E G t' S n) : INV B H E p tk S0 G ((S, n, yK w, yF w + 1, yG w + 1, t'), w.2.1, w.2.2.1, x1, x2, x3) D := by
  obtain ⟨⟨i1, i2, i3⟩, i4, i5, ⟨o1, o2, o3, o4, o5⟩, ⟨b1, b2, b3, b4, b5, b6⟩, ⟨f1, f2, f3⟩⟩ := h
  refine ⟨⟨i1, i2, i3⟩, i4, fun k hk c gc => ?_, ⟨o1, o2, o3, o4, by show 0 ≤ yF w + 1; omega⟩, ⟨⟨?_, ?_⟩, fun j hj => ?_, b3, b4, fun k hk q => ?_, fun k hk q => ?_⟩, ⟨hg, fun k hk => ?_, fun j hj => ?_⟩⟩
  · rcases i5 k hk c gc with q | ⟨q1, q2⟩ | q | q
    · exact Or.inl q
    · exact Or.inr (Or.inl ⟨q1, far1 o5 hs q2⟩)
    · exact Or.inr (Or.inr (Or.inl q))
    · exact Or.inr (Or.inr (Or.inr q))
  · show D (yK w) + (yF w + 1) ≤ yG w + 1
    omega
  · show yG w + 1 ≤ 4000
    omega
  · show dW D (yW w j) ≤ D (yK w) + (yF w + 1)
    have := b2 j hj
    omega
  · show D k + kL (yH w k) ≤ yG w + 1
    have := b5 k hk q
    omega
  · show kL (yH w k) + (D (yK w) + (yF w + 1)) ≤ yG w + 1
    have := b6 k hk q
    omega
  · obtain ⟨y1, y2, y3, y4⟩ := f2 k hk
    exact ⟨okS_mono ht y1, y2, y3, y4⟩
  · obtain ⟨y1, y2, y3, y4⟩ := f3 j hj
    exact ⟨okS_mono ht y1, y2, y3, y4⟩
/-- one way waits -/
theorem two_i {w : WK} {D : Nat → Int} (h : INV B H E p tk S0 G w D) {S S2 : ST} {n g t' x1 x2 : Int} {x3 : Int → Option ST} (hs : ∀ c, gC B E (yS w) (yA w) c → rch B H E p tk 1 (fun c => gC B E S n c ∨ gC B E S2 g c) c) (hG : ¬ yG w = 4000) (ht : yT w ≤ t') (hg : goS E G t' S n) (hg2 : goS E G t' S2 g) :
    INV B H E p tk S0 G ((S, n, yK w, yF w + 1, yG w + 1, t'), (yNn w, upK (yH w) (yK w) (kS (yH w (yK w)), kA (yH w (yK w)), kB (yH w (yK w)), kF (yH w (yK w)), kW (yH w (yK w)) + 1, kL (yH w (yK w)))), (yM w + 1, fun j => if j = yM w then (S2, g, yK w, yF w + 1) else yW w j), x1, x2, x3) D := by
  obtain ⟨⟨i1, i2, i3⟩, i4, i5, ⟨o1, o2, o3, o4, o5⟩, ⟨b1, b2, b3, b4, b5, b6⟩, ⟨f1, f2, f3⟩⟩ := h
  have N1 := i2.1
  generalize hK : upK (yH w) (yK w) (kS (yH w (yK w)), kA (yH w (yK w)), kB (yH w (yK w)), kF (yH w (yK w)), kW (yH w (yK w)) + 1, kL (yH w (yK w))) = K'
  generalize hW' : (fun j => if j = yM w then (S2, g, yK w, yF w + 1) else yW w j : Nat → WT) = Wt'
  have same : ∀ j, kS (K' j) = kS (yH w j) ∧ kA (K' j) = kA (yH w j) ∧ kB (K' j) = kB (yH w j) ∧ kF (K' j) = kF (yH w j) ∧ kW (K' j) = kW (yH w j) + (if j = yK w then 1 else 0) ∧ kL (K' j) = kL (yH w j) := fun j => by
    rw [← hK]
    unfold upK
    by_cases e : j = yK w
    · rw [if_pos e, if_pos e, e]
      exact ⟨rfl, rfl, rfl, rfl, rfl, rfl⟩
    · rw [if_neg e, if_neg e]
      exact ⟨rfl, rfl, rfl, rfl, by omega, rfl⟩
  have kW1 : 1 ≤ kW (yH w (yK w)) := by
    have e := i4 (yK w) i1
    have a := cnt_ge (wai (yW w) (yK w)) (yM w)
    have b := cnt_ge (chd (yH w) 1000 (yK w)) (yNn w)
    rw [if_pos rfl] at e
    omega
  have opn : ∀ j, 0 < kW (K' j) ↔ 0 < kW (yH w j) := fun j => by
    rw [(same j).2.2.2.2.1]
    by_cases e : j = yK w
    · rw [if_pos e, e]; omega
    · rw [if_neg e]; omega
  have wold : ∀ j, j < yM w → Wt' j = yW w j := fun j hj => by rw [← hW']; exact if_neg (by omega)
  have wnew : Wt' (yM w) = (S2, g, yK w, yF w + 1) := by rw [← hW']; exact if_pos rfl
  have cs : ∀ j, j < yM w + 1 → j < yM w ∨ j = yM w := fun j hj => by omega
  refine ⟨⟨i1, ⟨i2.1, ?_, fun k hk => ?_⟩, ⟨i3.1, fun k hk q => ?_⟩⟩, fun k hk => ?_, fun k hk c gc => ?_, ⟨fun j hj => ?_, fun i j hi hj => ?_, fun k hk q => ?_, fun a k ha hk qa qk hka => ?_, by show 0 ≤ yF w + 1; omega⟩, ⟨⟨?_, ?_⟩, fun j hj => ?_, fun i j hi hj => ?_, fun j k hj hk q => ?_, fun k hk q => ?_, fun k hk q => ?_⟩, ⟨hg, fun k hk => ?_, fun j hj => ?_⟩⟩
  · show kS (K' 0) = S0 ∧ kA (K' 0) = 0
    rw [(same 0).1, (same 0).2.1]
    exact i2.2.1
  · show (kB (K' k) < k ∧ -1 ≤ kB (K' k) ∧ (0 < k → 0 ≤ kB (K' k))) ∧ 0 ≤ kF (K' k) ∧ 0 ≤ kL (K' k)
    rw [(same k).2.2.1, (same k).2.2.2.1, (same k).2.2.2.2.2]
    exact i2.2.2 k hk
  · have q : 0 ≤ kB (K' k) := q
    show D k = D (kB (K' k)).toNat + kF (K' k)
    rw [(same k).2.2.1] at q ⊢
    rw [(same k).2.2.2.1]
    exact i3.2 k hk q
  · show kW (K' k) = (if yK w = k then 1 else 0) + (cnt (yM w) (wai Wt' k) + (if wai Wt' k (yM w) = true then 1 else 0)) + cnt (yNn w) (chd K' 1000 k)
    have e1 : cnt (yM w) (wai Wt' k) = cnt (yM w) (wai (yW w) k) := cnt_ext _ fun j hj => by unfold wai; rw [wold j hj]
    have e2 : cnt (yNn w) (chd K' 1000 k) = cnt (yNn w) (chd (yH w) 1000 k) := cnt_ext _ fun j hj => chd_c (by rw [(same j).2.2.1, opn j])
    have e3 : (wai Wt' k (yM w) = true) = (yK w = k) := by
      unfold wai
      rw [wnew]
      exact propext ⟨of_decide_eq_true, decide_eq_true⟩
    simp only [e1, e2, e3]
    rw [(same k).2.2.2.2.1, i4 k hk]
    by_cases e : k = yK w
    · rw [if_pos e, if_pos e.symm]; omega
    · rw [if_neg e, if_neg (fun q => e q.symm)]; omega
  · have gc : gC B E (kS (K' k)) (kA (K' k)) c := gc
    rw [(same k).1, (same k).2.1] at gc
    show fin B H E p tk (kL (K' k)).toNat c ∨ (yK w = k ∧ rch B H E p tk (yF w + 1).toNat (gC B E S n) c) ∨ (∃ j : Nat, j < yM w + 1 ∧ wtK (Wt' j) = k ∧ rch B H E p tk (wtF (Wt' j)).toNat (gC B E (wtS (Wt' j)) (wtA (Wt' j))) c) ∨ ∃ j : Nat, j < yNn w ∧ kB (K' j) = (k : Int) ∧ (0 < kW (K' j) ∨ j = 1000) ∧ rch B H E p tk (kF (K' j)).toNat (gC B E (kS (K' j)) (kA (K' j))) c
    rw [(same k).2.2.2.2.2]
    rcases i5 k hk c gc with q | ⟨q1, q2⟩ | ⟨j, j1, j2, j3⟩ | ⟨j, j1, j2, j3, j4⟩
    · exact Or.inl q
    · rcases rch_or _ _ (far1 o5 hs q2) with q | q
      · exact Or.inr (Or.inl ⟨q1, q⟩)
      · exact Or.inr (Or.inr (Or.inl ⟨yM w, by omega, by rw [wnew]; exact q1, by rw [wnew]; exact q⟩))
    · exact Or.inr (Or.inr (Or.inl ⟨j, by omega, by rw [wold j j1]; exact j2, by rw [wold j j1]; exact j3⟩))
    · refine Or.inr (Or.inr (Or.inr ⟨j, j1, (same j).2.2.1.trans j2, ?_, ?_⟩))
      · rcases j3 with q | q
        · exact Or.inl ((opn j).mpr q)
        · exact Or.inr q
      · rw [(same j).1, (same j).2.1, (same j).2.2.2.1]
        exact j4
  · show wtK (Wt' j) ≤ yK w ∧ 0 ≤ wtF (Wt' j)
    rcases cs j hj with lt | e
    · rw [wold j lt]; exact o1 j lt
    · rw [e, wnew]
      exact ⟨Nat.le_refl _, by show 0 ≤ yF w + 1; omega⟩
  · show wtK (Wt' i) ≤ wtK (Wt' j)
    rcases cs j hj with lt | e
    · rw [wold j lt, wold i (by omega)]; exact o2 i j hi lt
    · have li : i < yM w := by omega
      rw [e, wnew, wold i li]
      exact (o1 i li).1
  · exact o3 k hk ((opn k).mp q)
  · show (k : Int) ≤ kB (K' a)
    rw [(same a).2.2.1]
    exact o4 a k ha hk ((opn a).mp qa) ((opn k).mp qk) hka
  · show D (yK w) + (yF w + 1) ≤ yG w + 1
    omega
  · show yG w + 1 ≤ 4000
    omega
  · show dW D (Wt' j) ≤ D (yK w) + (yF w + 1)
    rcases cs j hj with lt | e
    · rw [wold j lt]
      have := b2 j lt
      omega
    · rw [e, wnew]
      exact Int.le_refl _
  · show dW D (Wt' i) ≤ dW D (Wt' j)
    rcases cs j hj with lt | e
    · rw [wold j lt, wold i (by omega)]; exact b3 i j hi lt
    · have li : i < yM w := by omega
      rw [e, wnew, wold i li]
      have := b2 i li
      show dW D (yW w i) ≤ D (yK w) + (yF w + 1)
      omega
  · show k ≤ wtK (Wt' j) ∨ dW D (Wt' j) ≤ D k
    rcases cs j hj with lt | e
    · rw [wold j lt]
      exact b4 j k lt hk ((opn k).mp q)
    · rw [e, wnew]
      exact Or.inl (o3 k hk ((opn k).mp q))
  · show D k + kL (K' k) ≤ yG w + 1
    rw [(same k).2.2.2.2.2]
    have := b5 k hk ((opn k).mp q)
    omega
  · have q : kW (K' k) ≤ 0 := q
    show kL (K' k) + (D (yK w) + (yF w + 1)) ≤ yG w + 1
    rw [(same k).2.2.2.2.2]
    have o := (opn k).mpr
    have := b6 k hk (by omega)
    omega
  · show goS E G t' (kS (K' k)) (kA (K' k))
    rw [(same k).1, (same k).2.1]
    obtain ⟨y1, y2, y3, y4⟩ := f2 k hk
    exact ⟨okS_mono ht y1, y2, y3, y4⟩
  · show goS E G t' (wtS (Wt' j)) (wtA (Wt' j))
    rcases cs j hj with lt | e
    · rw [wold j lt]
      obtain ⟨y1, y2, y3, y4⟩ := f3 j lt
      exact ⟨okS_mono ht y1, y2, y3, y4⟩
    · rw [e, wnew]
      exact hg2
/-- whether it goes on well -/
def itrG (B : WB W) (H : WH W) (E : EV) (p : Int → B64) (tk : W → W) (S0 : ST) (G : Int → Prop) (o : Bool) (w : WK) : Prop := (o = true → finI B H E p tk S0 w) ∧ (o = false → ∃ D, INV B H E p tk S0 G w D)
theorem ins_i (hB : okB B) (hH : okH B H) (hE : okE E) (hT : okT B tk) (hp : okP G p) {w : WK} {D : Nat → Int} (h : INV B H E p tk S0 G w D) (h0 : (insK E p w).1 = 0) :
    ((insK E p w).2.1 = false → ∃ D, INV B H E p tk S0 G (insK E p w).2.2 D) ∧ ((insK E p w).2.1 = true → (yM (insK E p w).2.2 = 0 → finI B H E p tk S0 (insK E p w).2.2) ∧ (¬ yM (insK E p w).2.2 = 0 → ∃ D, INV B H E p tk S0 G (popK (insK E p w).2.2) D)) := by
  obtain ⟨ho, hm, hk, hi⟩ := h.2.2.2.2.2.1
  have hw := (hp (yA w) hi).1
  revert h0
  unfold insK
  split
  · intro h0; exfalso; have h0 : (12 : Int) = 0 := h0; omega
  · rename_i n4
    by_cases f0 : (stpJ E (yS w) (yA w) (p (yA w)) (p (yA w + 1)) (yT w)).1 = 0
    · simp only [f0, not_true_eq_false, if_false]
      have rO := stp_ok hE ho hw f0
      have rM := stp_m (E := E) (t := yT w) hp hm ho hk hi
      have st : ∀ c, gC B E (yS w) (yA w) c → _ := fun c gc => stp_c (H := H) (tk := tk) hB hH hE hT ho hw gc f0
      have nn := stp_nn (E := E) (S := yS w) (i := yA w) (w := p (yA w)) (w2 := p (yA w + 1)) (t := yT w)
      generalize stpJ E (yS w) (yA w) (p (yA w)) (p (yA w + 1)) (yT w) = r at *
      obtain ⟨r1, r2, r3, r4⟩ := r
      have o5 := h.2.2.2.1.2.2.2.2
      have bb := h.2.2.2.2.1.1
      cases r2 with
      | none =>
        have r3n : r3 = none := nn rfl
        subst r3n
        simp only
        intro _
        have key := end_pop (n := yF w + 1) (g' := yG w + 1) (t' := r4) (x1 := w.2.2.2.1) (x2 := w.2.2.2.2.1) (x3 := fun i => if i = yA w then some (yS w) else w.2.2.2.2.2 i) h (fun c hc => far1 o5 (fun c gc => rch_mono (fun c' q => ?_) _ _ (st c gc)) hc) (by omega) (by omega) rO.1 (by omega) (yS w) (yA w) (yF w + 1) (yK w)
        · refine ⟨fun q => ?_, fun _ => ⟨fun m0 => key.1 m0, fun m0 => ⟨D, key.2 m0⟩⟩⟩
          cases q
        · rcases q with ⟨_, _, q, _⟩ | ⟨_, _, q, _⟩ <;> cases q
      | some a =>
        obtain ⟨n, S⟩ := a
        have g1 := rM.1 n S rfl
        have G1 : goS E G r4 S n := ⟨rO.2.1 n S rfl, g1.1, g1.2.2, g1.2.1⟩
        cases r3 with
        | none =>
          simp only
          intro _
          refine ⟨fun _ => ⟨D, one_i h (fun c gc => rch_mono (fun c' q => ?_) _ _ (st c gc)) n4 rO.1 G1⟩, fun q => by cases q⟩
          rcases q with ⟨_, _, q, q2⟩ | ⟨_, _, q, _⟩
          · cases q; exact q2
          · cases q
        | some b =>
          obtain ⟨g, S2⟩ := b
          simp only
          have g2 := rM.2 g S2 rfl
          have G2 : goS E G r4 S2 g := ⟨rO.2.2 g S2 rfl, g2.1, g2.2.2, g2.2.1⟩
          split
          · intro h0; exfalso; have h0 : (12 : Int) = 0 := h0; omega
          · intro _
            refine ⟨fun _ => ⟨D, two_i h (fun c gc => rch_mono (fun c' q => ?_) _ _ (st c gc)) n4 rO.1 G1 G2⟩, fun q => by cases q⟩
            rcases q with ⟨_, _, q, q2⟩ | ⟨_, _, q, q2⟩
            · cases q; exact Or.inl q2
            · cases q; exact Or.inr q2
    · simp only [f0, not_false_eq_true, if_true]
      intro h0
      exact h0.elim
theorem mee_i {w : WK} {D : Nat → Int} (h : INV B H E p tk S0 G w D) (h0 : (meeK w).1 = 0) :
    ((meeK w).2.1 = false → ∃ D, INV B H E p tk S0 G (meeK w).2.2 D) ∧ ((meeK w).2.1 = true → (yM (meeK w).2.2 = 0 → finI B H E p tk S0 (meeK w).2.2) ∧ (¬ yM (meeK w).2.2 = 0 → ∃ D, INV B H E p tk S0 G (popK (meeK w).2.2) D)) := by
  revert h0
  unfold meeK
  split
  · rename_i k hk
    split
    · intro h0; exfalso; have h0 : (11 : Int) = 0 := h0; omega
    · rename_i k0
      intro _
      unfold metK at hk
      have km := List.mem_range.mp (List.mem_of_find?_eq_some hk)
      have kc := List.find?_some hk
      simp only [Bool.and_eq_true, decide_eq_true_eq] at kc
      have o5 := h.2.2.2.1.2.2.2.2
      have b6 := h.2.2.2.2.1.2.2.2.2.2 k km (by omega)
      have bb := h.2.2.2.2.1.1
      have gk := h.2.2.2.2.2.2.1 k km
      have kLn := (h.1.2.1.2.2 k km).2.2
      have key := end_pop (n := yF w + kL (yH w k)) (g' := yG w) (t' := yT w) (x1 := w.2.2.2.1) (x2 := w.2.2.2.2.1) (x3 := w.2.2.2.2.2) h (fun c hc => ?_) (Int.le_refl _) bb.2 (Int.le_refl _) (by omega) (yS w) (yA w) (yF w) (yK w)
      · exact ⟨fun q => (by cases q), fun _ => ⟨fun m0 => key.1 m0, fun m0 => ⟨D, key.2 m0⟩⟩⟩
      · have f := fin_add (rch_mono (fun c' (gc : gC B E (yS w) (yA w) c') => by
          refine over_fin h.2.1 h.2.2.1 km (by omega) ?_
          obtain ⟨e, th, tp, g⟩ := gc
          exact ⟨e.trans kc.1.symm, cov_g g gk.1 gk.2.1 kc.2⟩) _ _ hc)
        rwa [show (yF w + kL (yH w k)).toNat = (yF w).toNat + (kL (yH w k)).toNat by omega]
  · split
    · intro h0; exfalso; have h0 : (12 : Int) = 0 := h0; omega
    · rename_i n250
      intro _
      exact ⟨fun _ => ⟨_, keep_i h n250⟩, fun q => by cases q⟩
theorem itr_i (hB : okB B) (hH : okH B H) (hE : okE E) (hT : okT B tk) (hp : okP G p) {first : Bool} {w : WK} {D : Nat → Int} (h : INV B H E p tk S0 G w D) (h0 : (itrK E p J first w).1 = 0) : itrG B H E p tk S0 G (itrK E p J first w).2.1 (itrK E p J first w).2.2 := by
  revert h0
  unfold itrK
  have mm : ∀ m : Int × Bool × WK, m = (if J (yA w) = true ∧ first = false then meeK w else (0, false, w)) → m.1 = 0 → (m.2.1 = false → ∃ D, INV B H E p tk S0 G m.2.2 D) ∧ (m.2.1 = true → (yM m.2.2 = 0 → finI B H E p tk S0 m.2.2) ∧ (¬ yM m.2.2 = 0 → ∃ D, INV B H E p tk S0 G (popK m.2.2) D)) := by
    intro m e z
    by_cases c : J (yA w) = true ∧ first = false
    · rw [if_pos c] at e
      subst e
      exact mee_i h z
    · rw [if_neg c] at e
      subst e
      exact ⟨fun _ => ⟨D, h⟩, fun q => by cases q⟩
  have mm := mm _ rfl
  generalize (if J (yA w) = true ∧ first = false then meeK w else (0, false, w)) = m at *
  obtain ⟨m1, m2, m3⟩ := m
  simp only at mm ⊢
  by_cases z : m1 = 0
  · subst z
    obtain ⟨a1, a2⟩ := mm rfl
    simp only [not_true_eq_false, if_false]
    cases m2 with
    | true =>
      simp only [if_true, not_true_eq_false, if_false]
      intro h0
      split
      · rename_i y
        exact ⟨fun _ => (a2 rfl).1 y, fun q => by cases q⟩
      · rename_i y
        exact ⟨fun q => (by cases q), fun _ => (a2 rfl).2 y⟩
    | false =>
      obtain ⟨D', h'⟩ := a1 rfl
      simp only [Bool.false_eq_true, if_false]
      have ii := ins_i hB hH hE hT hp h'
      generalize insK E p m3 = s at *
      obtain ⟨s1, s2, s3⟩ := s
      simp only at ii ⊢
      by_cases z : s1 = 0
      · subst z
        obtain ⟨c1, c2⟩ := ii rfl
        simp only [not_true_eq_false, if_false]
        intro _
        cases s2 with
        | true =>
          simp only [if_true]
          split
          · rename_i y
            exact ⟨fun _ => (c2 rfl).1 y, fun q => by cases q⟩
          · rename_i y
            exact ⟨fun q => (by cases q), fun _ => (c2 rfl).2 y⟩
        | false =>
          simp only [Bool.false_eq_true, if_false]
          exact ⟨fun q => (by cases q), fun _ => c1 rfl⟩
      · simp only [z, not_false_eq_true, if_true]
        intro h0
        exact h0.elim
  · simp only [z, not_false_eq_true, if_true]
    intro h0
    exact h0.elim
theorem wlk_i (hB : okB B) (hH : okH B H) (hE : okE E) (hT : okT B tk) (hp : okP G p) : ∀ (n : Nat) (first : Bool) (w w' : WK) (D : Nat → Int), INV B H E p tk S0 G w D → wlkK E p J n first w = some (0, w') → finI B H E p tk S0 w' := by
  intro n
  induction n with
  | zero => intro first w w' D _ h; cases h
  | succ n ih =>
    intro first w w' D h e
    unfold wlkK at e
    by_cases z : (itrK E p J first w).1 = 0
    · rw [if_neg (not_not_intro z)] at e
      have g := itr_i hB hH hE hT hp h z
      split at e
      · rename_i o
        cases e
        exact g.1 o
      · rename_i o
        obtain ⟨D', h'⟩ := g.2 (by simpa using o)
        exact ih _ _ _ _ h' e
    · rw [if_pos z] at e
      simp only [Option.some.injEq, Prod.mk.injEq] at e
      exact absurd e.1 z
theorem beg_i (hg : goS E G 0 S0 0) : INV B H E p tk S0 G (begK S0) (fun _ => 0) := by
  refine ⟨⟨by show 0 < 1; decide, ⟨⟨by show 1 ≤ 1; decide, by show 1 ≤ 250; decide⟩, ⟨rfl, rfl⟩, fun k hk => ?_⟩, ⟨rfl, fun k hk q => ?_⟩⟩, fun k hk => ?_, fun k hk c gc => ?_, ⟨fun j hj => ?_, fun i j _ hj => ?_, fun k hk _ => ?_, fun a k ha hk _ _ hka => ?_, Int.le_refl _⟩, ⟨⟨by show (0 : Int) + 0 ≤ 0; decide, by show (0 : Int) ≤ 4000; decide⟩, fun j hj => ?_, fun i j _ hj => ?_, fun j k hj => ?_, fun k hk _ => by show (0 : Int) + 0 ≤ 0; decide, fun k hk q => ?_⟩, ⟨hg, fun k hk => hg, fun j hj => ?_⟩⟩
  · have hk : k < 1 := hk
    refine ⟨⟨by show (-1 : Int) < k; omega, by show (-1 : Int) ≤ -1; decide, fun h => by omega⟩, Int.le_refl _, Int.le_refl _⟩
  · have q : (0 : Int) ≤ -1 := q
    omega
  · have hk : k < 1 := hk
    have e : k = 0 := by omega
    subst e
    show (1 : Int) = 1 + 0 + (0 + (if chd (fun _ => (S0, 0, -1, 0, 1, 0)) 1000 0 0 = true then 1 else 0))
    rw [chd_f (fun q => by have q := q.1; have q : (-1 : Int) = 0 := q; omega)]
    rfl
  · have hk : k < 1 := hk
    exact Or.inr (Or.inl ⟨by show 0 = k; omega, gc⟩)
  · have hj : j < 0 := hj
    omega
  · have hj : j < 0 := hj
    omega
  · have hk : k < 1 := hk
    show k ≤ 0
    omega
  · have ha : a < 1 := ha
    omega
  · have hj : j < 0 := hj
    omega
  · have hj : j < 0 := hj
    omega
  · have hj : j < 0 := hj
    omega
  · have q : (1 : Int) ≤ 0 := q
    omega
  · have hj : j < 0 := hj
    omega
/-- a program that the walk takes ends on every machine, in at most LONGEST steps -/
theorem walk_fin (hB : okB B) (hH : okH B H) (hE : okE E) (hT : okT B tk) (hp : okP G p) (hg : goS E G 0 S0 0) {n : Nat} {w' : WK} (h : wlkK E p J n true (begK S0) = some (0, w')) {c : TC W} (gc : gC B E S0 0 c) : fin B H E p tk 4000 c := by
  obtain ⟨a, b, d⟩ := wlk_i hB hH hE hT hp n true (begK S0) w' _ (beg_i hg) h
  exact fin_le (a c gc) (by omega)
end WG
