/-! ===== whole runs: programs that go on with programs ===== -/
def S0J : ST := (1, fun k => if k = 1 then mkV 2 0 0 else unsV, fun _ => 0, [])
theorem S0_can : canS S0J := fun k _ => by
  show canV (if k = 1 then mkV 2 0 0 else unsV)
  split
  · exact can_mk (by decide)
  · exact can_uns
theorem S0_ok {E : EV} : okS E 0 S0J := by
  have k2 : vk (mkV 2 0 0) = 2 := rfl
  have u0 : vk unsV = 0 := rfl
  have cs : ∀ k : Nat, vk (sV S0J k) = 2 ∨ vk (sV S0J k) = 0 := fun k => by
    show vk (if k = 1 then mkV 2 0 0 else unsV) = 2 ∨ vk (if k = 1 then mkV 2 0 0 else unsV) = 0
    split
    · exact Or.inl k2
    · exact Or.inr u0
  refine ⟨⟨by show 1 ≤ 1; decide, by show 1 ≤ 4; decide⟩, fun k _ => ?_, fun k k' _ _ a => ?_, fun h hh => (by cases hh), List.nodup_nil, by show 0 ≤ 64; decide, Int.le_refl _⟩
  · have c := cs k
    refine ⟨by omega, ?_, ?_, ?_, ?_, ?_, ?_, ?_, ?_, ?_⟩ <;> intro e <;> (exfalso; omega)
  · have c := cs k
    exfalso; omega
theorem S0_m : okM S0J := fun k _ => by
  show okN (vn (if k = 1 then mkV 2 0 0 else unsV))
  split <;> exact okN_cst _
section RU
variable {W : Type} {B : WB W} {H : WH W} {E : EV} {tk : W → W}
def st0 (v : W) : TC W := (0, 1, (fun i j => if i = 0 ∧ j = 1 then (1, 0#64) else nilR), (fun _ _ => (0, 0, 0#64)), (fun _ => 0), v)
theorem st0_g (v : W) (h : ∀ i, i < 64 → B.2.2.2.1 v i = false) : gC B E S0J 0 (st0 v) := by
  have u0 : vk unsV = 0 := rfl
  refine ⟨rfl, fun _ => 0, fun _ => 0#64, rfl, fun f r hf hr => ?_, fun f q hf hq => ?_, fun f h1 h2 => ?_, fun i hi => ⟨fun q => ?_, fun ⟨x, x1, _⟩ => (by cases x1)⟩, fun a b ha => (by cases ha), fun f b hb => ?_, rfl⟩
  · have hf : f < 1 := hf
    have f0 : f = 0 := by omega
    subst f0
    show gV E _ _ _ _ _ (if 26 * 0 + r = 1 then mkV 2 0 0 else unsV) (if 0 = 0 ∧ r = 1 then (1, 0#64) else nilR)
    by_cases e : r = 1
    · rw [if_pos (by omega), if_pos ⟨rfl, e⟩]
      exact mk_2 rfl rfl
    · rw [if_neg (by omega)]
      exact mk_0 rfl
  · have hf : f < 1 := hf
    show gP E _ _ _ _ _ (if 26 * f + 10 + q = 1 then mkV 2 0 0 else unsV) _
    rw [if_neg (by omega)]
    refine ⟨fun _ i _ hb => ?_, fun e => absurd rfl e⟩
    have hb : (0 : Int).toNat.testBit i = true := hb
    simp at hb
  · have h2 : f < 1 := h2
    omega
  · have := h i hi
    rw [show B.2.2.2.1 (cW (st0 v)) i = B.2.2.2.1 v i from rfl, this] at q
    cases q
  · have hb : (0 : Nat) = 1 := hb
    omega
/-- what each step keeps of the rest of a machine -/
def keepR (B : WB W) (H : WH W) (R : W → W → Prop) : Prop :=
  (∀ w, R w w) ∧ (∀ a b c, R a b → R b c → R a c) ∧ (∀ w o b v, R w (B.2.2.1 w o b v)) ∧ (∀ w x, R w (H.2.1 w x)) ∧ (∀ w m k v f, R w (H.2.2.2.1 w m k v f).1) ∧ (∀ w m k, R w (H.2.2.2.2.1 w m k).1) ∧ (∀ w l, R w (H.2.2.2.2.2.2.1 w l)) ∧ (∀ w, R w (H.2.2.2.2.2.2.2.1 w).1) ∧ (∀ w x, R w (H.2.2.2.2.2.2.2.2.2.2.1 w x).1) ∧ (∀ w m n, R w (H.2.2.2.2.2.2.2.2.2.2.2.1 w m n).1) ∧ (∀ w i b, R w (H.2.2.2.2.2.2.2.2.2.2.2.2 w i b))
section KR
variable {R : W → W → Prop} (hR : keepR B H R)
theorem wrB_R (hR : keepR B H R) {c c' : TC W} {o b : Nat} {v : B64} (h : wrB B c o b v = some c') : R (cW c) (cW c') := by
  unfold wrB at h
  split at h
  · split at h
    · cases h; exact hR.1 _
    · cases h
  · split at h
    · split at h
      · cases h; exact hR.2.2.1 _ _ _ _
      · cases h
    · split at h
      · split at h
        · cases h; exact hR.2.2.1 _ _ _ _
        · cases h
      · split at h
        · split at h
          · cases h; exact hR.2.2.1 _ _ _ _
          · cases h
        · cases h
theorem wrL_R (hR : keepR B H R) {o : Nat} : ∀ (l : List B64) {b : Nat} {c c' : TC W}, wrL B c o b l = some c' → R (cW c) (cW c') := by
  intro l
  induction l with
  | nil => intro b c c' h; cases h; exact hR.1 _
  | cons v l ih =>
    intro b c c' h
    unfold wrL at h
    split at h
    · rename_i c1 h1
      exact hR.2.1 _ _ _ (wrB_R hR h1) (ih h)
    · cases h
theorem stoT_R (hR : keepR B H R) {c c' : TC W} {w : B64} (h : stoT B H c w = some c') : R (cW c) (cW c') := by
  unfold stoT at h
  dsimp only at h
  generalize (if fL w = 3 then rdR c (sRr w) else ((0, BitVec.ofInt 64 (fI w)) : SV)) = v at h
  split at h
  · split at h
    · cases h; exact hR.2.2.2.1 _ _
    · cases h
  · split at h
    · exact wrL_R hR _ h
    · split at h
      · cases h; exact hR.1 _
      · cases h
theorem swT_R (hR : keepR B H R) {c c' : TC W} {w : B64} (h : swT B c w = some c') : R (cW c) (cW c') := by
  unfold swT at h
  split at h
  · cases h
  · split at h
    · cases h
    · split at h
      · split at h
        · cases h
        · split at h
          · rename_i l _ _ _ c1 h1
            cases h
            split at h1
            · have z := wrL_R hR _ h1
              exact z
            · cases h1; exact hR.1 _
          · cases h
      · split at h
        · rename_i c1 h1
          cases h
          have := wrL_R hR _ h1
          split
          · exact this
          · exact this
        · cases h
theorem hpT_R (hR : keepR B H R) {c c' : TC W} {h n : Int} {k : Nat} (e : hpT B H E c h n = some (k, c')) : (k = 2 ∧ ∃ m x, H.2.2.2.2.2.2.2.2.1 (cW c) m x = some (cW c')) ∨ (¬ k = 2 ∧ R (cW c) (cW c')) := by
  obtain ⟨r1, r2, r3, r4, r5, r6, r7, r8, r9, r10, r11⟩ := hR
  have bh : ∀ {c0 : TC W} {s : Nat → Nat → MB} {v : W} {r : SV}, bhT c0 s v r n = some (k, c') → R (cW c) v → (k = 2 ∧ ∃ m x, H.2.2.2.2.2.2.2.2.1 (cW c) m x = some (cW c')) ∨ (¬ k = 2 ∧ R (cW c) (cW c')) := fun q hv => by
    unfold bhT at q
    cases q
    exact Or.inr ⟨by decide, hv⟩
  unfold hpT at e
  by_cases q1 : h = 1 ∨ h = 2 ∨ h = 3
  · rw [if_pos q1] at e
    split at e
    · cases e
    · split at e
      · cases e
      · split at e
        · split at e
          · exact bh e (r1 _)
          · exact bh e (r1 _)
        · split at e
          · exact bh e (r6 _ _ _)
          · split at e
            · cases e
            · split at e
              · cases e
              · exact bh e (r5 _ _ _ _ _)
  · rw [if_neg q1] at e
    by_cases q2 : h = 5
    · rw [if_pos q2] at e
      exact bh e (r1 _)
    · rw [if_neg q2] at e
      by_cases q3 : h = 6
      · rw [if_pos q3] at e
        split at e
        · cases e
        · split at e
          · cases e
          · exact bh e (r7 _ _)
      · rw [if_neg q3] at e
        by_cases q4 : h = 7
        · rw [if_pos q4] at e
          exact bh e (r8 _)
        · rw [if_neg q4] at e
          by_cases q5 : h = 12
          · rw [if_pos q5] at e
            split at e
            · cases e
            · split at e
              · rename_i v hv
                cases e
                exact Or.inl ⟨rfl, _, _, hv⟩
              · exact bh e (r1 _)
          · rw [if_neg q5] at e
            by_cases q6 : h = 26
            · rw [if_pos q6] at e
              split at e
              · cases e
              · split at e
                · cases e
                · rename_i c1 h1
                  unfold bhT at e
                  cases e
                  exact Or.inr ⟨by decide, r1 _⟩
            · rw [if_neg q6] at e
              by_cases q7 : h = 44
              · rw [if_pos q7] at e
                split at e
                · cases e
                · exact bh e (r9 _ _)
              · rw [if_neg q7] at e
                by_cases q8 : h = 131
                · rw [if_pos q8] at e
                  split at e
                  · cases e
                  · exact bh e (r10 _ _ _)
                · rw [if_neg q8] at e
                  split at e
                  · split at e
                    · cases e
                    · exact bh e (r11 _ _ _)
                  · cases e
theorem stpT_R (hR : keepR B H R) {c c' : TC W} {w w2 : B64} {k : Nat} (e : stpT B H E c w w2 = some (k, c')) : (k = 2 ∧ ∃ m x, H.2.2.2.2.2.2.2.2.1 (cW c) m x = some (cW c')) ∨ (¬ k = 2 ∧ R (cW c) (cW c')) := by
  have id0 : R (cW c) (cW c) := hR.1 _
  unfold stpT at e
  split at e
  · split at e
    · cases e; exact Or.inr ⟨by decide, id0⟩
    · cases e; exact Or.inr ⟨by decide, id0⟩
  · split at e
    · split at e
      · cases e; exact Or.inr ⟨by decide, id0⟩
      · cases e
    · split at e
      · split at e
        · cases e; exact Or.inr ⟨by decide, id0⟩
        · split at e
          · unfold exT at e
            split at e
            · cases e
            · split at e
              · cases e; exact Or.inr ⟨by decide, id0⟩
              · cases e; exact Or.inr ⟨by decide, id0⟩
          · split at e
            · split at e
              · split at e
                · cases e
                · cases e; exact Or.inr ⟨by decide, id0⟩
              · exact hpT_R hR (hpG_T e).1
            · split at e
              · cases e; exact Or.inr ⟨by decide, id0⟩
              · cases e
      · split at e
        · split at e
          · cases e; exact Or.inr ⟨by decide, id0⟩
          · cases e
        · split at e
          · split at e
            · rename_i c1 h1
              cases e
              have z := swT_R hR h1
              exact Or.inr ⟨by decide, z⟩
            · cases e
          · split at e
            · rename_i c1 h1
              cases e
              have z := stoT_R hR h1
              exact Or.inr ⟨by decide, z⟩
            · cases e
end KR
/-- a run: of a program, and of those that it goes on with -/
noncomputable def rnT (B : WB W) (H : WH W) (E : EV) (tk : W → W) (pr : Int → Int → B64) (sl : W → Int) : Nat → Int → TC W → Option (TC W)
  | 0, _, _ => none
  | n + 1, s, c => match stp1 B H E (pr s) tk c with
    | none => none
    | some (0, c') => rnT B H E tk pr sl n s c'
    | some (1, c') => some c'
    | some (_, c') => rnT B H E tk pr sl n (sl (cW c')) (st0 (cW c'))
theorem rnT_mono {pr : Int → Int → B64} {sl : W → Int} : ∀ (n : Nat) (s : Int) (c r : TC W), rnT B H E tk pr sl n s c = some r → rnT B H E tk pr sl (n + 1) s c = some r := by
  intro n
  induction n with
  | zero => intro s c r h; cases h
  | succ n ih =>
    intro s c r h
    unfold rnT at h ⊢
    split at h
    · cases h
    · exact ih _ _ _ h
    · exact h
    · exact ih _ _ _ h
theorem rnT_le {pr : Int → Int → B64} {sl : W → Int} {n m : Nat} {s : Int} {c r : TC W} (h : rnT B H E tk pr sl n s c = some r) (hm : n ≤ m) : rnT B H E tk pr sl m s c = some r := by
  induction hm with
  | refl => exact h
  | step _ ih => exact rnT_mono _ _ _ _ ih
theorem rn_one {R : W → W → Prop} (hR : keepR B H R) (hk : ∀ w, R w (tk w)) {pr : Int → Int → B64} {sl : W → Int} {rem : W → Nat} {I : W → Prop} (h1 : ∀ w v, R w v → rem v = rem w ∧ (I w → I v)) (h2 : ∀ w m x v, I w → H.2.2.2.2.2.2.2.2.1 w m x = some v → rem v + 1 = rem w ∧ I v) {m : Nat} {s : Int} : ∀ (n : Nat) (c : TC W), fin B H E (pr s) tk n c → I (cW c) →
    (∀ v, I v → rem v + 1 = rem (cW c) → (∀ i, i < 64 → B.2.2.2.1 v i = false) → (∃ w mm x, I w ∧ H.2.2.2.2.2.2.2.2.1 w mm x = some v) → ∃ r, rnT B H E tk pr sl m (sl v) (st0 v) = some r) → ∃ r, rnT B H E tk pr sl (n + m) s c = some r := by
  intro n
  induction n with
  | zero => intro c h; exact h.elim
  | succ n ih =>
    intro c h hI ht
    obtain ⟨k, c', e, a, b⟩ := h
    have q := stpT_R hR (show stpT B H E (cP c, cN c, cR c, cS c, cB c, tk (cW c)) _ _ = some (k, c') from e)
    have tI := (h1 _ _ (hk (cW c)))
    rw [show n + 1 + m = (n + m) + 1 by omega]
    unfold rnT
    rw [e]
    match k, a, b, q with
    | 0, a, b, q =>
      simp only
      have q := (q.resolve_left (fun z => by omega)).2
      have z := h1 _ _ q
      refine ih c' (a rfl) (z.2 (tI.2 hI)) ?_
      rw [show rem (cW c') = rem (cW c) from z.1.trans tI.1]
      exact ht
    | 1, a, b, q => exact ⟨c', rfl⟩
    | k + 2, a, b, q =>
      simp only
      have eb := b (by omega)
      obtain ⟨mm, x, hx⟩ : ∃ m x, H.2.2.2.2.2.2.2.2.1 (tk (cW c)) m x = some (cW c') := by
        rcases q with q | q
        · exact q.2
        · exfalso
          have := eb.1
          omega
      have z := h2 _ _ _ _ (tI.2 hI) hx
      obtain ⟨r, hr⟩ := ht (cW c') z.2 (by rw [← tI.1]; exact z.1) eb.2.2 ⟨_, mm, x, tI.2 hI, hx⟩
      exact ⟨r, rnT_le hr (by omega)⟩
/-- every run of a program that was taken ends -/
theorem rn_ends {R : W → W → Prop} (hB : okB B) (hH : okH B H) (hE : okE E) (hT : okT B tk) (hR : keepR B H R) (hk : ∀ w, R w (tk w)) {pr : Int → Int → B64} {sl : W → Int} {rem : W → Nat} {I : W → Prop} {good : Int → Prop} (h1 : ∀ w v, R w v → rem v = rem w ∧ (I w → I v)) (h2 : ∀ w m x v, I w → H.2.2.2.2.2.2.2.2.1 w m x = some v → rem v + 1 = rem w ∧ I v ∧ good (sl v))
    (h3 : ∀ s, good s → ∃ (G : Int → Prop) (J : Int → Bool) (n : Nat) (w' : WK), okP G (pr s) ∧ G 0 ∧ wlkK E (pr s) J n true (begK S0J) = some (0, w')) :
    ∀ (d : Nat) (v : W) (s : Int), rem v ≤ d → I v → good s → (∀ i, i < 64 → B.2.2.2.1 v i = false) → ∃ r, rnT B H E tk pr sl (4000 * (d + 1)) s (st0 v) = some r := by
  intro d
  have f4 : ∀ (v : W) (s : Int), good s → (∀ i, i < 64 → B.2.2.2.1 v i = false) → fin B H E (pr s) tk 4000 (st0 v) := fun v s hs hv => by
    obtain ⟨G, J, n, w', g1, g2, g3⟩ := h3 s hs
    exact walk_fin hB hH hE hT g1 ⟨S0_ok, S0_m, fun f a b => (by have b : f < 1 := b; omega), g2⟩ g3 (st0_g v hv)
  induction d with
  | zero =>
    intro v s hd hI hs hv
    have := rn_one (pr := pr) (sl := sl) (m := 0) hR hk h1 (fun w m x v a b => ⟨(h2 w m x v a b).1, (h2 w m x v a b).2.1⟩) 4000 (st0 v) (f4 v s hs hv) hI (fun v' _ e => by
      have e : rem v' + 1 = rem v := e
      omega)
    exact this
  | succ d ih =>
    intro v s hd hI hs hv
    have := rn_one (pr := pr) (sl := sl) (m := 4000 * (d + 1)) hR hk h1 (fun w m x v a b => ⟨(h2 w m x v a b).1, (h2 w m x v a b).2.1⟩) 4000 (st0 v) (f4 v s hs hv) hI (fun v' a e h ⟨w, mm, x, b1, b2⟩ => by
      have e : rem v' + 1 = rem v := e
      exact ih v' (sl v') (by omega) a (h2 w mm x v' b1 b2).2.2 h)
    rw [show 4000 * (d + 1 + 1) = 4000 + 4000 * (d + 1) by omega]
    exact this
end RU
