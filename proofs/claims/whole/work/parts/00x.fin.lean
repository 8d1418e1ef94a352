/-! ===== THE WALK is right: a run of a program that it takes ends in time ===== -/
theorem stp_nn {E : EV} {S : ST} {i : Int} {w w2 : B64} {t : Int} : (stpJ E S i w w2 t).2.1 = none → (stpJ E S i w w2 t).2.2.1 = none := by
  have n1 : ∀ f n S' t', (wayJ f n S' t').2.1 = none → (wayJ f n S' t').2.2.1 = none := fun f n S' t' => by
    unfold wayJ
    split <;> (intro _; rfl)
  have n2 : (exiJ S t).2.1 = none → (exiJ S t).2.2.1 = none := by
    unfold exiJ
    repeat' split
    all_goals (intro _; rfl)
  have n3 : ∀ g n, (entJ S g n t).2.1 = none → (entJ S g n t).2.2.1 = none := fun g n => by
    unfold entJ
    split <;> (intro _; rfl)
  have n4 : ∀ h n, (hlpJ E S h n t).2.1 = none → (hlpJ E S h n t).2.2.1 = none := fun h n => by
    unfold hlpJ
    repeat' split
    all_goals (intro _; rfl)
  have n5 : ∀ p c g n, (rchJ S p c g n t).2.1 = none → (rchJ S p c g n t).2.2.1 = none := fun p c g n => by
    unfold rchJ
    intro h
    cases h
  have n6 : ∀ g n, (numJ S w g n t).2.1 = none → (numJ S w g n t).2.2.1 = none := fun g n => by
    unfold numJ
    repeat' split
    all_goals (intro h; first | rfl | cases h)
  have n7 : ∀ g n, (cmpJ S w g n t).2.1 = none → (cmpJ S w g n t).2.2.1 = none := fun g n => by
    unfold cmpJ
    split
    · intro _; rfl
    · split
      · exact n6 g n
      · split
        · split <;> (intro h; cases h)
        · split
          · intro h; cases h
          · split
            · intro _; rfl
            · split
              · exact n5 _ _ _ _
              · split
                · exact n5 _ _ _ _
                · intro _; rfl
  unfold stpJ
  split
  · split
    · intro h; cases h
    · split
      · intro _; rfl
      · intro h; cases h
  · split
    · exact n1 _ _ _ _
    · split
      · split
        · intro h; cases h
        · split
          · exact n2
          · split
            · split
              · exact n3 _ _
              · exact n4 _ _
            · exact n7 _ _
      · split
        · exact n1 _ _ _ _
        · split <;> exact n1 _ _ _ _
theorem cnt_s (p : Nat → Bool) (n : Nat) : cnt (n + 1) p = cnt n p + (if p n = true then 1 else 0) := rfl
section WF
variable {W : Type} {B : WB W} {H : WH W} {E : EV} {p : Int → B64} {tk : W → W} {S0 : ST} {J : Int → Bool} {G : Int → Prop}
/-- a state that is well made, at a word -/
abbrev goS (E : EV) (G : Int → Prop) (t : Int) (S : ST) (a : Int) : Prop := okS E t S ∧ okM S ∧ okG G S ∧ G a
def ordI (w : WK) : Prop := (∀ j, j < yM w → wtK (yW w j) ≤ yK w ∧ 0 ≤ wtF (yW w j)) ∧ (∀ i j, i < j → j < yM w → wtK (yW w i) ≤ wtK (yW w j)) ∧ (∀ k, k < yNn w → 0 < kW (yH w k) → k ≤ yK w) ∧ (∀ a k : Nat, a < yNn w → k < yNn w → 0 < kW (yH w a) → 0 < kW (yH w k) → k < a → (k : Int) ≤ kB (yH w a)) ∧ 0 ≤ yF w
abbrev dW (D : Nat → Int) (x : WT) : Int := D (wtK x) + wtF x
def bdI (w : WK) (D : Nat → Int) : Prop := (D (yK w) + yF w ≤ yG w ∧ yG w ≤ 4000) ∧ (∀ j, j < yM w → dW D (yW w j) ≤ D (yK w) + yF w) ∧ (∀ i j, i < j → j < yM w → dW D (yW w i) ≤ dW D (yW w j)) ∧ (∀ j k : Nat, j < yM w → k < yNn w → 0 < kW (yH w k) → k ≤ wtK (yW w j) ∨ dW D (yW w j) ≤ D k) ∧ (∀ k, k < yNn w → 0 < kW (yH w k) → D k + kL (yH w k) ≤ yG w) ∧ (∀ k, k < yNn w → kW (yH w k) ≤ 0 → kL (yH w k) + (D (yK w) + yF w) ≤ yG w)
def wfI (E : EV) (G : Int → Prop) (w : WK) : Prop := goS E G (yT w) (yS w) (yA w) ∧ (∀ k, k < yNn w → goS E G (yT w) (kS (yH w k)) (kA (yH w k))) ∧ ∀ j, j < yM w → goS E G (yT w) (wtS (yW w j)) (wtA (yW w j))
def INV (B : WB W) (H : WH W) (E : EV) (p : Int → B64) (tk : W → W) (S0 : ST) (G : Int → Prop) (w : WK) (D : Nat → Int) : Prop :=
  (yK w < yNn w ∧ pK S0 (yNn w) (yH w) ∧ dK (yNn w) (yH w) D) ∧ cI (yNn w) (yM w) (yK w) 1000 (yH w) (yW w)
  ∧ semI B H E p tk (gC B E (yS w) (yA w)) (yF w) (yNn w) (yM w) (yK w) 1000 (yH w) (yW w) ∧ ordI w ∧ bdI w D ∧ wfI E G w
/-- it ends well -/
def finI (B : WB W) (H : WH W) (E : EV) (p : Int → B64) (tk : W → W) (S0 : ST) (w : WK) : Prop := (∀ c, gC B E S0 0 c → fin B H E p tk (kL (yH w 0)).toNat c) ∧ 0 ≤ kL (yH w 0) ∧ kL (yH w 0) ≤ 4000
theorem wt_k {x : WT} {S : ST} {a f : Int} {k : Nat} (e : x = (S, a, k, f)) : wtS x = S ∧ wtA x = a ∧ wtK x = k ∧ wtF x = f := by
  subst e; exact ⟨rfl, rfl, rfl, rfl⟩
/-- the way at hand is over, in n -/
theorem end_pop {w : WK} {D : Nat → Int} {n g' t' : Int} {x1 x2 : Int} {x3 : Int → Option ST} (h : INV B H E p tk S0 G w D) (hn : ∀ c, rch B H E p tk (yF w).toNat (gC B E (yS w) (yA w)) c → fin B H E p tk n.toNat c) (hg : yG w ≤ g') (h4 : g' ≤ 4000) (ht : yT w ≤ t') (hD : D (yK w) + n ≤ g') (S' : ST) (a' f' : Int) (k' : Nat) :
    (yM w = 0 → finI B H E p tk S0 ((S', a', k', f', g', t'), (yNn w, endK (yH w) (yK w) n), (yM w, yW w), x1, x2, x3)) ∧ (¬ yM w = 0 → INV B H E p tk S0 G (popK ((S', a', k', f', g', t'), (yNn w, endK (yH w) (yK w) n), (yM w, yW w), x1, x2, x3)) D) := by
  obtain ⟨⟨i1, i2, i3⟩, i4, i5, ⟨o1, o2, o3, o4, o5⟩, ⟨b1, b2, b3, b4, b5, b6⟩, ⟨f1, f2, f3⟩⟩ := h
  obtain ⟨⟨p1, p2⟩, r2, r3, r4, r5, r6, r7⟩ := endw_i (G := g') (n := n) i1 i2 i3 i4 i5 hn (fun j hj q => by have := b5 j hj q; omega) hD
  have kL0 := (p1.2.2 0 (by have := p1.1; omega)).2.2
  have N1 := p1.1
  have open0 : 0 < kW (yH w 0) := by
    refine open_0 i2 i4 _ (yK w) (Nat.lt_succ_self _) i1 ?_
    have e := i4 (yK w) i1
    have a := cnt_ge (wai (yW w) (yK w)) (yM w)
    have b := cnt_ge (chd (yH w) 1000 (yK w)) (yNn w)
    rw [if_pos rfl] at e
    omega
  have bound : ∀ k, k < yNn w → 0 < kW (yH w k) → D k + kL (endK (yH w) (yK w) n k) ≤ g' := r7
  refine ⟨fun m0 => ⟨fun c gc => ?_, kL0, ?_⟩, fun m0 => ?_⟩
  · show fin B H E p tk (kL (endK (yH w) (yK w) n 0)).toNat c
    rw [m0] at r3 r4
    have z := all_over p1 r3 _ 0 (by omega) (Nat.le_refl _)
    refine over_fin r3 r4 (by omega) (by omega) ?_
    rw [p1.2.1.1, p1.2.1.2]
    exact gc
  · show kL (endK (yH w) (yK w) n 0) ≤ 4000
    have := bound 0 (by omega) open0
    rw [i3.1] at this
    omega
  · have lst : yM w - 1 < yM w := by omega
    have wl := o1 _ lst
    have mono : ∀ j, j < yM w → wtK (yW w j) ≤ wtK (yW w (yM w - 1)) ∧ dW D (yW w j) ≤ dW D (yW w (yM w - 1)) := fun j hj => by
      by_cases e : j = yM w - 1
      · rw [e]; exact ⟨Nat.le_refl _, Int.le_refl _⟩
      · exact ⟨o2 j _ (by omega) lst, b3 j _ (by omega) lst⟩
    have stay : ∀ j, j < yNn w → 0 < kW (endK (yH w) (yK w) n j) → 0 < kW (yH w j) := fun j hj q => by have := r5 j hj; omega
    refine ⟨⟨by show wtK (yW w (yM w - 1)) < yNn w; omega, p1, p2⟩, fun k hk => ?_, fun k hk c gc => ?_, ⟨fun j hj => ?_, fun i j hi hj => ?_, fun k hk q => ?_, fun a k ha hk qa qk hka => ?_, wl.2⟩, ⟨⟨?_, h4⟩, fun j hj => ?_, fun i j hi hj => ?_, fun j k hj hk q => ?_, fun k hk q => ?_, fun k hk q => ?_⟩, ⟨?_, fun k hk => ?_, fun j hj => ?_⟩⟩
    · have hk : k < yNn w := hk
      show kW (endK (yH w) (yK w) n k) = (if wtK (yW w (yM w - 1)) = k then 1 else 0) + cnt (yM w - 1) (wai (yW w) k) + cnt (yNn w) (chd (endK (yH w) (yK w) n) 1000 k)
      have e := r3 k hk
      rw [if_neg (by omega)] at e
      have em : cnt (yM w) (wai (yW w) k) = cnt (yM w - 1) (wai (yW w) k) + (if wtK (yW w (yM w - 1)) = k then 1 else 0) := by
        obtain ⟨m, hm⟩ : ∃ m, yM w = m + 1 := ⟨yM w - 1, by omega⟩
        rw [hm]
        show cnt (m + 1) (wai (yW w) k) = cnt m (wai (yW w) k) + (if wtK (yW w m) = k then 1 else 0)
        rw [cnt_s]
        have : (wai (yW w) k m = true) = (wtK (yW w m) = k) := by
          unfold wai
          exact propext ⟨of_decide_eq_true, decide_eq_true⟩
        simp only [this]
      omega
    · have hk : k < yNn w := hk
      rcases r4 k hk c gc with q | ⟨q, _⟩ | ⟨j, j1, j2, j3⟩ | q
      · exact Or.inl q
      · exfalso; omega
      · by_cases e : j = yM w - 1
        · rw [e] at j2 j3
          exact Or.inr (Or.inl ⟨j2, j3⟩)
        · exact Or.inr (Or.inr (Or.inl ⟨j, by show j < yM w - 1; omega, j2, j3⟩))
      · exact Or.inr (Or.inr (Or.inr q))
    · have hj : j < yM w - 1 := hj
      exact ⟨(mono j (by omega)).1, (o1 j (by omega)).2⟩
    · have hj : j < yM w - 1 := hj
      exact o2 i j hi (by omega)
    · have hk : k < yNn w := hk
      obtain ⟨j, j1, j2⟩ := open_wait p1 r3 _ k hk (Nat.le_refl _) q
      show k ≤ wtK (yW w (yM w - 1))
      have := (mono j j1).1
      omega
    · have ha : a < yNn w := ha
      have hk : k < yNn w := hk
      show (k : Int) ≤ kB (endK (yH w) (yK w) n a)
      rw [(r2 a).2.2.1]
      exact o4 a k ha hk (stay a ha qa) (stay k hk qk) hka
    · show dW D (yW w (yM w - 1)) ≤ g'
      have := b2 _ lst
      omega
    · have hj : j < yM w - 1 := hj
      exact (mono j (by omega)).2
    · have hj : j < yM w - 1 := hj
      exact b3 i j hi (by omega)
    · have hj : j < yM w - 1 := hj
      have hk : k < yNn w := hk
      exact b4 j k (by omega) hk (stay k hk q)
    · have hk : k < yNn w := hk
      exact bound k hk (stay k hk q)
    · have hk : k < yNn w := hk
      show kL (endK (yH w) (yK w) n k) + dW D (yW w (yM w - 1)) ≤ g'
      have dn := b2 _ lst
      by_cases c : 0 < kW (yH w k)
      · have bk := bound k hk c
        rcases b4 _ k lst hk c with z | z
        · exfalso
          have e := r3 (wtK (yW w (yM w - 1))) (by omega)
          have := cnt_pos (yM w) lst (show wai (yW w) (wtK (yW w (yM w - 1))) (yM w - 1) = true from decide_eq_true rfl)
          have y := cnt_ge (chd (endK (yH w) (yK w) n) 1000 (wtK (yW w (yM w - 1)))) (yNn w)
          have := open_up (K := yH w) p1 r3 r5 (fun j => (r2 j).2.2.1) o4 hk c _ (wtK (yW w (yM w - 1))) (Nat.lt_succ_self _) (by omega) z (by split at e <;> omega)
          have q : kW (endK (yH w) (yK w) n k) ≤ 0 := q
          omega
        · omega
      · have u := r6 k hk (by omega)
        rw [u]
        have := b6 k hk (by omega)
        omega
    · obtain ⟨y1, y2, y3, y4⟩ := f3 _ lst
      exact ⟨okS_mono ht y1, y2, y3, y4⟩
    · have hk : k < yNn w := hk
      obtain ⟨y1, y2, y3, y4⟩ := f2 k hk
      show goS E G t' (kS (endK (yH w) (yK w) n k)) (kA (endK (yH w) (yK w) n k))
      rw [(r2 k).1, (r2 k).2.1]
      exact ⟨okS_mono ht y1, y2, y3, y4⟩
    · have hj : j < yM w - 1 := hj
      obtain ⟨y1, y2, y3, y4⟩ := f3 j (by omega)
      exact ⟨okS_mono ht y1, y2, y3, y4⟩
/-- a state comes to be kept -/
theorem keep_i {w : WK} {D : Nat → Int} (h : INV B H E p tk S0 G w D) (hN : ¬ yNn w = 250) : INV B H E p tk S0 G ((yS w, yA w, yNn w, 0, yG w, yT w), (yNn w + 1, upK (yH w) (yNn w) (yS w, yA w, (yK w : Int), yF w, 1, 0)), w.2.2) (fun k => if k = yNn w then D (yK w) + yF w else D k) := by
  obtain ⟨⟨i1, i2, i3⟩, i4, i5, ⟨o1, o2, o3, o4, o5⟩, ⟨b1, b2, b3, b4, b5, b6⟩, ⟨f1, f2, f3⟩⟩ := h
  have N1 := i2.1
  have old : ∀ k, k < yNn w → upK (yH w) (yNn w) (yS w, yA w, (yK w : Int), yF w, 1, 0) k = yH w k := fun k hk => if_neg (by omega)
  have new : upK (yH w) (yNn w) (yS w, yA w, (yK w : Int), yF w, 1, 0) (yNn w) = (yS w, yA w, (yK w : Int), yF w, 1, 0) := if_pos rfl
  have dold : ∀ k, k < yNn w → (if k = yNn w then D (yK w) + yF w else D k) = D k := fun k hk => if_neg (by omega)
  have dnew : (if yNn w = yNn w then D (yK w) + yF w else D (yNn w)) = D (yK w) + yF w := if_pos rfl
  have cs : ∀ k, k < yNn w + 1 → k < yNn w ∨ k = yNn w := fun k hk => by omega
  have wK : ∀ j, j < yM w → (if wtK (yW w j) = yNn w then D (yK w) + yF w else D (wtK (yW w j))) = D (wtK (yW w j)) := fun j hj => dold _ (by have := o1 j hj; omega)
  refine ⟨⟨by show yNn w < yNn w + 1; omega, ⟨⟨by show 1 ≤ yNn w + 1; omega, by show yNn w + 1 ≤ 250; omega⟩, ?_, fun k hk => ?_⟩, ⟨?_, fun k hk q => ?_⟩⟩, fun k hk => ?_, fun k hk c gc => ?_, ⟨fun j hj => ?_, o2, fun k hk q => ?_, fun a k ha hk qa qk hka => ?_, Int.le_refl _⟩, ⟨⟨?_, b1.2⟩, fun j hj => ?_, fun i j hi hj => ?_, fun j k hj hk q => ?_, fun k hk q => ?_, fun k hk q => ?_⟩, ⟨f1, fun k hk => ?_, f3⟩⟩
  · show kS (upK (yH w) (yNn w) (yS w, yA w, (yK w : Int), yF w, 1, 0) 0) = S0 ∧ kA (upK (yH w) (yNn w) (yS w, yA w, (yK w : Int), yF w, 1, 0) 0) = 0
    rw [old 0 (by omega)]
    exact i2.2.1
  · show (kB (upK (yH w) (yNn w) (yS w, yA w, (yK w : Int), yF w, 1, 0) k) < k ∧ -1 ≤ kB (upK (yH w) (yNn w) (yS w, yA w, (yK w : Int), yF w, 1, 0) k) ∧ (0 < k → 0 ≤ kB (upK (yH w) (yNn w) (yS w, yA w, (yK w : Int), yF w, 1, 0) k))) ∧ 0 ≤ kF (upK (yH w) (yNn w) (yS w, yA w, (yK w : Int), yF w, 1, 0) k) ∧ 0 ≤ kL (upK (yH w) (yNn w) (yS w, yA w, (yK w : Int), yF w, 1, 0) k)
    rcases cs k hk with lt | e
    · rw [old k lt]
      exact i2.2.2 k lt
    · rw [e, new]
      refine ⟨⟨by show (yK w : Int) < yNn w; omega, by show -1 ≤ (yK w : Int); omega, fun _ => by show 0 ≤ (yK w : Int); omega⟩, o5, Int.le_refl _⟩
  · show (if 0 = yNn w then D (yK w) + yF w else D 0) = 0
    rw [dold 0 (by omega)]
    exact i3.1
  · rcases cs k hk with lt | e
    · have q : 0 ≤ kB (upK (yH w) (yNn w) (yS w, yA w, (yK w : Int), yF w, 1, 0) k) := q
      show (if k = yNn w then D (yK w) + yF w else D k) = (if (kB (upK (yH w) (yNn w) (yS w, yA w, (yK w : Int), yF w, 1, 0) k)).toNat = yNn w then D (yK w) + yF w else D (kB (upK (yH w) (yNn w) (yS w, yA w, (yK w : Int), yF w, 1, 0) k)).toNat) + kF (upK (yH w) (yNn w) (yS w, yA w, (yK w : Int), yF w, 1, 0) k)
      rw [old k lt] at q ⊢
      have := (i2.2.2 k lt).1.1
      rw [dold k lt, dold _ (by omega)]
      exact i3.2 k lt q
    · subst e
      show (if yNn w = yNn w then D (yK w) + yF w else D (yNn w)) = (if (kB (upK (yH w) (yNn w) (yS w, yA w, (yK w : Int), yF w, 1, 0) (yNn w))).toNat = yNn w then D (yK w) + yF w else D (kB (upK (yH w) (yNn w) (yS w, yA w, (yK w : Int), yF w, 1, 0) (yNn w))).toNat) + kF (upK (yH w) (yNn w) (yS w, yA w, (yK w : Int), yF w, 1, 0) (yNn w))
      rw [new, dnew]
      show D (yK w) + yF w = (if ((yK w : Int)).toNat = yNn w then D (yK w) + yF w else D ((yK w : Int)).toNat) + yF w
      rw [Int.toNat_natCast, dold _ i1]
  · show kW (upK (yH w) (yNn w) (yS w, yA w, (yK w : Int), yF w, 1, 0) k) = (if yNn w = k then 1 else 0) + cnt (yM w) (wai (yW w) k) + (cnt (yNn w) (chd (upK (yH w) (yNn w) (yS w, yA w, (yK w : Int), yF w, 1, 0)) 1000 k) + (if chd (upK (yH w) (yNn w) (yS w, yA w, (yK w : Int), yF w, 1, 0)) 1000 k (yNn w) = true then 1 else 0))
    have ec : cnt (yNn w) (chd (upK (yH w) (yNn w) (yS w, yA w, (yK w : Int), yF w, 1, 0)) 1000 k) = cnt (yNn w) (chd (yH w) 1000 k) := cnt_ext _ fun j hj => chd_c (by rw [old j hj])
    rw [ec]
    have en : (chd (upK (yH w) (yNn w) (yS w, yA w, (yK w : Int), yF w, 1, 0)) 1000 k (yNn w) = true) = (yK w = k) := by
      unfold chd
      rw [new]
      refine propext ⟨fun q => ?_, fun q => decide_eq_true ⟨by show (yK w : Int) = k; omega, Or.inl (by show (0 : Int) < 1; decide)⟩⟩
      have q := (of_decide_eq_true q).1
      have q : (yK w : Int) = k := q
      omega
    simp only [en]
    rcases cs k hk with lt | e
    · rw [old k lt, i4 k lt, if_neg (show ¬ yNn w = k by omega)]
      omega
    · subst e
      rw [new, if_pos rfl, if_neg (show ¬ yK w = yNn w by omega)]
      have z1 : cnt (yM w) (wai (yW w) (yNn w)) = 0 := cnt_no _ fun j hj => decide_eq_false (by have := o1 j hj; omega)
      have z2 : cnt (yNn w) (chd (yH w) 1000 (yNn w)) = 0 := cnt_no _ fun j hj => chd_f fun q => by have := (i2.2.2 j hj).1.1; omega
      rw [z1, z2]
      rfl
  · rcases cs k hk with lt | e
    · have gc : gC B E (kS (upK (yH w) (yNn w) (yS w, yA w, (yK w : Int), yF w, 1, 0) k)) (kA (upK (yH w) (yNn w) (yS w, yA w, (yK w : Int), yF w, 1, 0) k)) c := gc
      rw [old k lt] at gc
      show fin B H E p tk (kL (upK (yH w) (yNn w) (yS w, yA w, (yK w : Int), yF w, 1, 0) k)).toNat c ∨ _
      rw [old k lt]
      rcases i5 k lt c gc with q | ⟨q1, q2⟩ | q | ⟨j, j1, j2, j3, j4⟩
      · exact Or.inl q
      · refine Or.inr (Or.inr (Or.inr ⟨yNn w, by show yNn w < yNn w + 1; omega, ?_, Or.inl ?_, ?_⟩))
        · show kB (upK (yH w) (yNn w) (yS w, yA w, (yK w : Int), yF w, 1, 0) (yNn w)) = k
          rw [new]
          show (yK w : Int) = k
          omega
        · show 0 < kW (upK (yH w) (yNn w) (yS w, yA w, (yK w : Int), yF w, 1, 0) (yNn w))
          rw [new]
          show (0 : Int) < 1
          decide
        · show rch B H E p tk (kF (upK (yH w) (yNn w) (yS w, yA w, (yK w : Int), yF w, 1, 0) (yNn w))).toNat (gC B E (kS (upK (yH w) (yNn w) (yS w, yA w, (yK w : Int), yF w, 1, 0) (yNn w))) (kA (upK (yH w) (yNn w) (yS w, yA w, (yK w : Int), yF w, 1, 0) (yNn w)))) c
          rw [new]
          exact q2
      · exact Or.inr (Or.inr (Or.inl q))
      · refine Or.inr (Or.inr (Or.inr ⟨j, by show j < yNn w + 1; omega, ?_, ?_, ?_⟩))
        · show kB (upK (yH w) (yNn w) (yS w, yA w, (yK w : Int), yF w, 1, 0) j) = k
          rw [old j j1]; exact j2
        · show 0 < kW (upK (yH w) (yNn w) (yS w, yA w, (yK w : Int), yF w, 1, 0) j) ∨ _
          rw [old j j1]; exact j3
        · show rch B H E p tk (kF (upK (yH w) (yNn w) (yS w, yA w, (yK w : Int), yF w, 1, 0) j)).toNat (gC B E (kS (upK (yH w) (yNn w) (yS w, yA w, (yK w : Int), yF w, 1, 0) j)) (kA (upK (yH w) (yNn w) (yS w, yA w, (yK w : Int), yF w, 1, 0) j))) c
          rw [old j j1]; exact j4
    · subst e
      have gc : gC B E (kS (upK (yH w) (yNn w) (yS w, yA w, (yK w : Int), yF w, 1, 0) (yNn w))) (kA (upK (yH w) (yNn w) (yS w, yA w, (yK w : Int), yF w, 1, 0) (yNn w))) c := gc
      rw [new] at gc
      exact Or.inr (Or.inl ⟨rfl, gc⟩)
  · have := o1 j hj
    exact ⟨by show wtK (yW w j) ≤ yNn w; omega, this.2⟩
  · show k ≤ yNn w
    have hk : k < yNn w + 1 := hk
    omega
  · have qa : 0 < kW (upK (yH w) (yNn w) (yS w, yA w, (yK w : Int), yF w, 1, 0) a) := qa
    have qk : 0 < kW (upK (yH w) (yNn w) (yS w, yA w, (yK w : Int), yF w, 1, 0) k) := qk
    show (k : Int) ≤ kB (upK (yH w) (yNn w) (yS w, yA w, (yK w : Int), yF w, 1, 0) a)
    rcases cs a ha with lt | e
    · rw [old a lt] at qa ⊢
      rw [old k (by omega)] at qk
      exact o4 a k lt (by omega) qa qk hka
    · subst e
      rw [new]
      rw [old k hka] at qk
      have := o3 k hka qk
      show (k : Int) ≤ yK w
      omega
  · show (if yNn w = yNn w then D (yK w) + yF w else D (yNn w)) + 0 ≤ yG w
    rw [dnew]
    omega
  · have hj : j < yM w := hj
    show (if wtK (yW w j) = yNn w then D (yK w) + yF w else D (wtK (yW w j))) + wtF (yW w j) ≤ (if yNn w = yNn w then D (yK w) + yF w else D (yNn w)) + 0
    rw [wK j hj, dnew]
    have : D (wtK (yW w j)) + wtF (yW w j) ≤ D (yK w) + yF w := b2 j hj
    omega
  · have hj : j < yM w := hj
    show (if wtK (yW w i) = yNn w then D (yK w) + yF w else D (wtK (yW w i))) + wtF (yW w i) ≤ (if wtK (yW w j) = yNn w then D (yK w) + yF w else D (wtK (yW w j))) + wtF (yW w j)
    rw [wK i (by omega), wK j hj]
    exact b3 i j hi hj
  · have hj : j < yM w := hj
    have q : 0 < kW (upK (yH w) (yNn w) (yS w, yA w, (yK w : Int), yF w, 1, 0) k) := q
    show k ≤ wtK (yW w j) ∨ (if wtK (yW w j) = yNn w then D (yK w) + yF w else D (wtK (yW w j))) + wtF (yW w j) ≤ (if k = yNn w then D (yK w) + yF w else D k)
    rw [wK j hj]
    rcases cs k hk with lt | e
    · rw [dold k lt]
      rw [old k lt] at q
      exact b4 j k hj lt q
    · rw [if_pos e]
      exact Or.inr (b2 j hj)
  · have q : 0 < kW (upK (yH w) (yNn w) (yS w, yA w, (yK w : Int), yF w, 1, 0) k) := q
    show (if k = yNn w then D (yK w) + yF w else D k) + kL (upK (yH w) (yNn w) (yS w, yA w, (yK w : Int), yF w, 1, 0) k) ≤ yG w
    rcases cs k hk with lt | e
    · rw [old k lt] at q ⊢
      rw [dold k lt]
      exact b5 k lt q
    · rw [if_pos e, e, new]
      show D (yK w) + yF w + 0 ≤ yG w
      omega
  · have q : kW (upK (yH w) (yNn w) (yS w, yA w, (yK w : Int), yF w, 1, 0) k) ≤ 0 := q
    show kL (upK (yH w) (yNn w) (yS w, yA w, (yK w : Int), yF w, 1, 0) k) + ((if yNn w = yNn w then D (yK w) + yF w else D (yNn w)) + 0) ≤ yG w
    rw [dnew]
    rcases cs k hk with lt | e
    · rw [old k lt] at q ⊢
      have := b6 k lt q
      omega
    · exfalso
      rw [e, new] at q
      have q : (1 : Int) ≤ 0 := q
      omega
  · show goS E G (yT w) (kS (upK (yH w) (yNn w) (yS w, yA w, (yK w : Int), yF w, 1, 0) k)) (kA (upK (yH w) (yNn w) (yS w, yA w, (yK w : Int), yF w, 1, 0) k))
    rcases cs k hk with lt | e
    · rw [old k lt]
      exact f2 k lt
    · rw [e, new]
      exact f1
end WF
