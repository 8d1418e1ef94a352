/-! ===== COVERS ===== -/
abbrev covN (a b : N6) : Prop := (¬ jA b < jA a ∧ ¬ jB a < jB b ∧ (jC a).toInt ≤ (jC b).toInt ∧ (jD b).toInt ≤ (jD a).toInt) ∧ jM b &&& ~~~ jM a = 0#64 ∧ (jV a ^^^ jV b) &&& ~~~ jM a = 0#64
abbrev PR : Type := List (Int × Int)
/-- TAGs answer to one another one to one -/
def answ (P : PR) (a b : Int) : Option PR := if a = 0 ∨ b = 0 then (if a = b then some P else none) else match P.find? (fun q => decide (q.1 = a ∨ q.2 = b)) with
  | some q => if q.1 = a ∧ q.2 = b then some P else none
  | none => some (P ++ [(a, b)])
def covV (P : PR) (a b : VL) : Option PR := if vk a = 0 then some P else if ¬ vk a = vk b then none else if vk a = 1 then (if covN (vn a) (vn b) then some P else none) else if (vw a = vw b ∧ vo a = vo b ∧ vr a ≤ vr b) ∧ covN (vn a) (vn b) then answ P (vt a) (vt b) else none
def covP (P : PR) (a b : VL) : Option PR := if ¬ vk a = 0 then (if ¬ vk b = 0 then covV P a b else none) else if vr a = 0 ∨ (if vk b = 0 then (vr a).toNat &&& (vr b).toNat = (vr a).toNat else vk b = 1) then some P else none
def covK (A S : ST) : List Nat → PR → Option PR
  | [], P => some P
  | k :: l, P => match (if k % 26 < 10 then covV P (sV A k) (sV S k) else covP P (sV A k) (sV S k)) with
    | some P' => covK A S l P'
    | none => none
def covH : List Int → List Int → PR → Option PR
  | a :: l, b :: m, P => match answ P a b with
    | some P' => covH l m P'
    | none => none
  | _, _, P => some P
/-- whether A COVERS S -/
def covS (A S : ST) : Bool := decide (sF A = sF S ∧ (sH A).length = (sH S).length) && ((List.range (sF A)).all fun f => decide (f = 0 ∨ sB A f = sB S f)) && (match covH (sH A) (sH S) [] with
  | some P => (covK A S (List.range (26 * sF A)) P).isSome
  | none => false)
def okp (P : PR) : Prop := (∀ q ∈ P, ¬ q.1 = 0 ∧ ¬ q.2 = 0) ∧ ∀ q ∈ P, ∀ r ∈ P, (q.1 = r.1 ∨ q.2 = r.2) → q = r
def relT (P : PR) (a b : Int) : Prop := (a = 0 ∧ b = 0) ∨ (a, b) ∈ P
theorem answ_s {P P' : PR} {a b : Int} (h : answ P a b = some P') (ho : okp P) : okp P' ∧ (∀ q ∈ P, q ∈ P') ∧ relT P' a b := by
  unfold answ at h
  split at h
  · split at h
    · cases h
      exact ⟨ho, fun q hq => hq, Or.inl (by omega)⟩
    · cases h
  · rename_i c0
    split at h
    · rename_i q hq
      split at h
      · rename_i e
        cases h
        refine ⟨ho, fun q hq => hq, Or.inr ?_⟩
        have := List.mem_of_find?_eq_some hq
        rwa [show q = (a, b) from Prod.ext e.1 e.2] at this
      · cases h
    · rename_i hn
      cases h
      rw [List.find?_eq_none] at hn
      have hn : ∀ q ∈ P, ¬ (q.1 = a ∨ q.2 = b) := fun q hq => by simpa using hn q hq
      refine ⟨⟨fun q hq => ?_, fun q hq r hr e => ?_⟩, fun q hq => List.mem_append_left _ hq, Or.inr (List.mem_append_right _ (List.mem_singleton.mpr rfl))⟩
      · rcases List.mem_append.mp hq with hq | hq
        · exact ho.1 q hq
        · rw [List.mem_singleton.mp hq]
          exact ⟨fun e => c0 (Or.inl e), fun e => c0 (Or.inr e)⟩
      · rcases List.mem_append.mp hq with hq | hq <;> rcases List.mem_append.mp hr with hr | hr
        · exact ho.2 q hq r hr e
        · rw [List.mem_singleton.mp hr] at e
          exact absurd e (hn q hq)
        · rw [List.mem_singleton.mp hq] at e
          exact absurd (by rcases e with e | e; exact Or.inl e.symm; exact Or.inr e.symm) (hn r hr)
        · rw [List.mem_singleton.mp hq, List.mem_singleton.mp hr]
def relV (P : PR) (a b : VL) : Prop := vk a = 0 ∨ (vk a = vk b ∧ covN (vn a) (vn b) ∧ (vk a = 1 ∨ ((vw a = vw b ∧ vo a = vo b ∧ vr a ≤ vr b) ∧ relT P (vt a) (vt b))))
def relP (P : PR) (a b : VL) : Prop := (¬ vk a = 0 ∧ relV P a b) ∨ (vk a = 0 ∧ (vr a = 0 ∨ (if vk b = 0 then (vr a).toNat &&& (vr b).toNat = (vr a).toNat else vk b = 1)))
theorem covV_s {P P' : PR} {a b : VL} (h : covV P a b = some P') (ho : okp P) : okp P' ∧ (∀ q ∈ P, q ∈ P') ∧ relV P' a b := by
  unfold covV at h
  split at h
  · rename_i k
    cases h
    exact ⟨ho, fun q hq => hq, Or.inl k⟩
  · split at h
    · cases h
    · rename_i k
      have k := Decidable.not_not.mp k
      split at h
      · rename_i k1
        split at h
        · rename_i c
          cases h
          exact ⟨ho, fun q hq => hq, Or.inr ⟨k, c, Or.inl k1⟩⟩
        · cases h
      · split at h
        · rename_i c
          obtain ⟨a1, a2, a3⟩ := answ_s h ho
          exact ⟨a1, a2, Or.inr ⟨k, c.2, Or.inr ⟨c.1, a3⟩⟩⟩
        · cases h
theorem covP_s {P P' : PR} {a b : VL} (h : covP P a b = some P') (ho : okp P) : okp P' ∧ (∀ q ∈ P, q ∈ P') ∧ relP P' a b := by
  unfold covP at h
  split at h
  · rename_i k
    split at h
    · obtain ⟨a1, a2, a3⟩ := covV_s h ho
      exact ⟨a1, a2, Or.inl ⟨k, a3⟩⟩
    · cases h
  · rename_i k
    have k := Decidable.not_not.mp k
    by_cases c : vr a = 0 ∨ (if vk b = 0 then (vr a).toNat &&& (vr b).toNat = (vr a).toNat else vk b = 1)
    · rw [if_pos c] at h
      cases h
      exact ⟨ho, fun q hq => hq, Or.inr ⟨k, c⟩⟩
    · rw [if_neg c] at h
      cases h
theorem relT_m {P P' : PR} (hs : ∀ q ∈ P, q ∈ P') {a b : Int} (h : relT P a b) : relT P' a b := by
  rcases h with h | h
  · exact Or.inl h
  · exact Or.inr (hs _ h)
theorem relV_m {P P' : PR} (hs : ∀ q ∈ P, q ∈ P') {a b : VL} (h : relV P a b) : relV P' a b := by
  rcases h with h | ⟨h1, h2, h3⟩
  · exact Or.inl h
  · refine Or.inr ⟨h1, h2, ?_⟩
    rcases h3 with h | h
    · exact Or.inl h
    · exact Or.inr ⟨h.1, relT_m hs h.2⟩
theorem relP_m {P P' : PR} (hs : ∀ q ∈ P, q ∈ P') {a b : VL} (h : relP P a b) : relP P' a b := by
  rcases h with h | h
  · exact Or.inl ⟨h.1, relV_m hs h.2⟩
  · exact Or.inr h
theorem covK_s {A S : ST} : ∀ (l : List Nat) {P P' : PR}, covK A S l P = some P' → okp P → okp P' ∧ (∀ q ∈ P, q ∈ P') ∧ ∀ k ∈ l, if k % 26 < 10 then relV P' (sV A k) (sV S k) else relP P' (sV A k) (sV S k) := by
  intro l
  induction l with
  | nil => intro P P' h ho; cases h; exact ⟨ho, fun q hq => hq, fun k hk => by cases hk⟩
  | cons k l ih =>
    intro P P' h ho
    unfold covK at h
    split at h
    · rename_i P1 h1
      have key : okp P1 ∧ (∀ q ∈ P, q ∈ P1) ∧ if k % 26 < 10 then relV P1 (sV A k) (sV S k) else relP P1 (sV A k) (sV S k) := by
        by_cases c : k % 26 < 10
        · rw [if_pos c] at h1 ⊢
          exact covV_s h1 ho
        · rw [if_neg c] at h1 ⊢
          exact covP_s h1 ho
      obtain ⟨a1, a2, a3⟩ := key
      obtain ⟨b1, b2, b3⟩ := ih h a1
      refine ⟨b1, fun q hq => b2 q (a2 q hq), fun j hj => ?_⟩
      rcases List.mem_cons.mp hj with e | hj
      · rw [e]
        by_cases c : k % 26 < 10
        · rw [if_pos c] at a3 ⊢
          exact relV_m b2 a3
        · rw [if_neg c] at a3 ⊢
          exact relP_m b2 a3
      · exact b3 j hj
    · cases h
theorem covH_s : ∀ (l m : List Int) {P P' : PR}, l.length = m.length → (∀ x ∈ l, ¬ x = 0) → covH l m P = some P' → okp P → okp P' ∧ (∀ q ∈ P, q ∈ P') ∧ (∀ a ∈ l, ∃ b ∈ m, (a, b) ∈ P') ∧ ∀ b ∈ m, ∃ a ∈ l, (a, b) ∈ P' := by
  intro l
  induction l with
  | nil =>
    intro m P P' hl _ h ho
    cases m with
    | nil => cases h; exact ⟨ho, fun q hq => hq, fun a ha => (by cases ha), fun a ha => (by cases ha)⟩
    | cons b m => cases hl
  | cons a l ih =>
    intro m P P' hl hz h ho
    cases m with
    | nil => cases hl
    | cons b m =>
      unfold covH at h
      split at h
      · rename_i P1 h1
        obtain ⟨a1, a2, a3⟩ := answ_s h1 ho
        have hl : l.length + 1 = m.length + 1 := hl
        obtain ⟨b1, b2, b3, b4⟩ := ih m (by omega) (fun x hx => hz x (List.mem_cons_of_mem _ hx)) h a1
        have ab : (a, b) ∈ P1 := by
          rcases a3 with e | e
          · exact absurd e.1 (hz a (List.mem_cons_self ..))
          · exact e
        refine ⟨b1, fun q hq => b2 q (a2 q hq), fun x hx => ?_, fun x hx => ?_⟩
        · rcases List.mem_cons.mp hx with e | hx
          · rw [e]
            exact ⟨b, List.mem_cons_self .., b2 _ ab⟩
          · obtain ⟨y, y1, y2⟩ := b3 x hx
            exact ⟨y, List.mem_cons_of_mem _ y1, y2⟩
        · rcases List.mem_cons.mp hx with e | hx
          · rw [e]
            exact ⟨a, List.mem_cons_self .., b2 _ ab⟩
          · obtain ⟨y, y1, y2⟩ := b4 x hx
            exact ⟨y, List.mem_cons_of_mem _ y1, y2⟩
      · cases h
theorem covN_g {a b : N6} {x : B64} (ha : okN a) (h : inN b x) (hc : covN a b) : inN a x := by
  obtain ⟨_, h1, h2, h3, h4, h5⟩ := h
  obtain ⟨⟨c1, c2, c3, c4⟩, c5, c6⟩ := hc
  rw [BitVec.lt_def] at c1 c2
  refine ⟨ha, fun i hi => ?_, by omega, by omega, by omega, by omega⟩
  by_cases lt : i < 64
  · have e5 : (jM b &&& ~~~ jM a).getLsbD i = (0#64).getLsbD i := by rw [c5]
    have e6 : ((jV a ^^^ jV b) &&& ~~~ jM a).getLsbD i = (0#64).getLsbD i := by rw [c6]
    rw [BitVec.getLsbD_and, BitVec.getLsbD_not, hi] at e5 e6
    rw [BitVec.getLsbD_xor] at e6
    simp [lt] at e5 e6
    have e5 : (jM b).getLsbD i = false := by simpa [lt] using e5
    rw [h1 i e5]
    have e6 : (jV a).getLsbD i = (jV b).getLsbD i := by simpa [lt] using e6
    rw [e6]
  · rw [BitVec.getLsbD_of_ge _ _ (by omega), BitVec.getLsbD_of_ge _ _ (by omega)]
section CV
variable {W : Type} {B : WB W} {E : EV} {th : Int → Nat} {tp : Int → B64} {A S : ST} {c : TC W} {t t' : Int}
def lkT {α : Type} (P : PR) (f : Int → α) (z : α) (a : Int) : α := match P.find? (fun q => decide (q.1 = a)) with
  | some q => f q.2
  | none => z
theorem lkT_in {α : Type} {P : PR} {f : Int → α} {z : α} (ho : okp P) {a b : Int} (h : (a, b) ∈ P) : lkT P f z a = f b := by
  unfold lkT
  split
  · rename_i q hq
    have m := List.mem_of_find?_eq_some hq
    have e : q.1 = a := by simpa using List.find?_some hq
    have : q = (a, b) := ho.2 q m (a, b) h (Or.inl e)
    rw [this]
  · rename_i hn
    rw [List.find?_eq_none] at hn
    exact absurd (hn _ h) (by simp)
theorem lkT_0 {α : Type} {P : PR} {f : Int → α} {z : α} (ho : okp P) : lkT P f z 0 = z := by
  unfold lkT
  split
  · rename_i q hq
    have m := List.mem_of_find?_eq_some hq
    have e : q.1 = 0 := by simpa using List.find?_some hq
    exact absurd e (ho.1 q m).1
  · rfl
theorem relV_g {P : PR} (hP : okp P) {ps : Nat} {rz : Nat → Int} {hA hS : List Int} (hh : ∀ b ∈ hS, ∃ a ∈ hA, (a, b) ∈ P) (t0 : tp 0 = 0#64) {a b : VL} {s : SV} {g : Nat} (ha : okN (vn a)) (oa : okV E g t a) (h : relV P a b) (gv : gV E ps rz hS th tp b s) : gV E ps rz hA (lkT P th 0) (lkT P tp 0#64) a s := by
  rcases h with h | ⟨k, cn, h⟩
  · exact mk_0 h
  · have r := oa.1
    have kk : vk a = 0 ∨ vk a = 1 ∨ vk a = 2 ∨ vk a = 3 ∨ vk a = 4 ∨ vk a = 5 ∨ vk a = 6 ∨ vk a = 7 ∨ vk a = 8 ∨ vk a = 9 ∨ vk a = 10 := by omega
    by_cases k1 : vk a = 1
    · have q := gV_1 gv (k.symm.trans k1)
      exact mk_1 k1 ⟨q.1, covN_g ha q.2 cn⟩
    · rcases h with h | ⟨⟨e1, e2, e3⟩, h⟩
      · exact absurd h k1
      · have tg : 1 ≤ vt a → (vt a, vt b) ∈ P := fun q => by
          rcases h with h | h
          · omega
          · exact h
        rcases kk with k0 | k0 | k0 | k0 | k0 | k0 | k0 | k0 | k0 | k0 | k0
        · exact mk_0 k0
        · exact absurd k0 k1
        · exact mk_2 k0 (gV_2 gv (k.symm.trans k0))
        · refine mk_3 k0 ?_
          rw [e1, e2]
          exact gV_3 gv (k.symm.trans k0)
        · refine mk_4 k0 ?_
          rw [e1]
          exact gV_4 gv (k.symm.trans k0)
        · refine mk_5 k0 ?_
          rw [e1, e2]
          obtain ⟨j, p, j1, j2, j3⟩ := gV_5 gv (k.symm.trans k0)
          exact ⟨j, p, j1, j2, covN_g ha j3 cn⟩
        · refine mk_6 k0 ?_
          rw [e1, lkT_in hP (tg (oa.2.2.2.2.2.2.1 (Or.inl k0)).1)]
          exact gV_6 gv (k.symm.trans k0)
        · refine mk_7 k0 ?_
          obtain ⟨q1, q2, q3⟩ := gV_7 gv (k.symm.trans k0)
          have e : lkT P tp 0#64 (vt a) = tp (vt b) := by
            rcases h with h | h
            · rw [h.1, h.2, lkT_0 hP, t0]
            · exact lkT_in hP h
          rw [e, e2]
          exact ⟨q1, covN_g ha q2 cn, by omega⟩
        · exact mk_8 k0 (gV_8 gv (k.symm.trans k0))
        · refine mk_9 k0 ?_
          have pr := tg (oa.2.2.2.2.2.2.1 (Or.inr (Or.inl k0))).1
          rw [e1, e2, lkT_in hP pr]
          obtain ⟨i, p, ⟨i1, i2, i3⟩, q1, q2, q3⟩ := gV_9 gv (k.symm.trans k0)
          obtain ⟨a', a1, a2⟩ := hh _ i3
          have := hP.2 _ a2 _ pr (Or.inr rfl)
          have ea : a' = vt a := congrArg Prod.fst this
          exact ⟨i, p, ⟨i1, i2, ea ▸ a1⟩, q1, covN_g ha q2 cn, q3⟩
        · refine mk_10 k0 ?_
          have pr := tg (oa.2.2.2.2.2.2.1 (Or.inr (Or.inr k0))).1
          rw [e1, lkT_in hP pr]
          rcases gV_10 gv (k.symm.trans k0) with q | ⟨i, ⟨i1, i2, i3⟩, q1, q3⟩
          · exact Or.inl q
          · obtain ⟨a', a1, a2⟩ := hh _ i3
            have := hP.2 _ a2 _ pr (Or.inr rfl)
            have ea : a' = vt a := congrArg Prod.fst this
            exact Or.inr ⟨i, ⟨i1, i2, ea ▸ a1⟩, q1, q3⟩
/-- what a state stands for the one that covers it stands for -/
theorem cov_g (g : gS B E th tp S c) (oA : okS E t A) (mA : okM A) (h : covS A S = true) : ∃ th' tp', gS B E th' tp' A c := by
  unfold covS at h
  simp only [Bool.and_eq_true, decide_eq_true_eq] at h
  obtain ⟨⟨⟨f1, f2⟩, f3⟩, f4⟩ := h
  split at f4
  · rename_i P1 h1
    cases h2 : covK A S (List.range (26 * sF A)) P1 with
    | none => rw [h2] at f4; cases f4
    | some P =>
      have o0 : okp [] := ⟨fun q hq => (by cases hq), fun q hq => (by cases hq)⟩
      obtain ⟨a1, a2, a3, a4⟩ := covH_s (sH A) (sH S) f2 (fun x hx => by have := (hd_ok oA).1 x hx; omega) h1 o0
      obtain ⟨b1, b2, b3⟩ := covK_s _ h2 a1
      have hA : ∀ a ∈ sH A, ∃ b ∈ sH S, (a, b) ∈ P := fun a ha => by
        obtain ⟨b, c1, c2⟩ := a3 a ha
        exact ⟨b, c1, b2 _ c2⟩
      have hS : ∀ b ∈ sH S, ∃ a ∈ sH A, (a, b) ∈ P := fun b hb => by
        obtain ⟨a, c1, c2⟩ := a4 b hb
        exact ⟨a, c1, b2 _ c2⟩
      obtain ⟨g1, g2, g3, g4, g5, g6, g7, g8⟩ := g
      have val : ∀ k s, k < 26 * sF A → relV P (sV A k) (sV S k) → gV E (B.1 (cW c)) (B.2.2.2.2 (cW c)) (sH S) th tp (sV S k) s → gV E (B.1 (cW c)) (B.2.2.2.2 (cW c)) (sH A) (lkT P th 0) (lkT P tp 0#64) (sV A k) s := fun k s hk hr gv => relV_g b1 hS g8 (mA k hk) (oA.2.1 k hk) hr gv
      refine ⟨lkT P th 0, lkT P tp 0#64, g1.trans f1.symm, fun f r hf hr => ?_, fun f q hf hq => ?_, fun f hf1 hf => ?_, fun i hi => (g5 i hi).trans ⟨?_, ?_⟩, fun x y hx hy e e0 => ?_, g7, lkT_0 b1⟩
      · have := b3 (26 * f + r) (List.mem_range.mpr (by omega))
        rw [if_pos (by omega)] at this
        exact val _ _ (by omega) this (g2 f r (by omega) hr)
      · have := b3 (26 * f + 10 + q) (List.mem_range.mpr (by omega))
        rw [if_neg (by omega)] at this
        have old := g3 f q (by omega) hq
        rcases this with ⟨k0, rv⟩ | ⟨k0, rb⟩
        · refine ⟨fun e => absurd e k0, fun _ => ?_⟩
          have kb : ¬ vk (sV S (26 * f + 10 + q)) = 0 := by
            rcases rv with e | e
            · exact absurd e k0
            · rw [← e.1]; exact k0
          obtain ⟨s, s1, s2⟩ := old.2 kb
          exact ⟨s, val _ s (by omega) rv s1, s2⟩
        · refine ⟨fun _ i hi hb => ?_, fun e => absurd k0 e⟩
          rcases rb with rb | rb
          · rw [rb] at hb
            have hb : Nat.testBit 0 i = true := hb
            simp at hb
          · by_cases kb : vk (sV S (26 * f + 10 + q)) = 0
            · rw [if_pos kb] at rb
              refine old.1 kb i hi ?_
              rw [← rb, Nat.testBit_and] at hb
              simp only [Bool.and_eq_true] at hb
              exact hb.2
            · rw [if_neg kb] at rb
              obtain ⟨s, s1, s2⟩ := old.2 kb
              have z := (gV_1 s1 rb).1
              rcases s2 with s2 | s2
              · exact s2.2.1 i hi
              · exfalso; omega
      · have := List.all_eq_true.mp f3 f (List.mem_range.mpr hf)
        have : f = 0 ∨ sB A f = sB S f := of_decide_eq_true this
        rcases this with e | e
        · omega
        · rw [e]
          exact g4 f hf1 (by omega)
      · rintro ⟨b, c1, c2⟩
        obtain ⟨a, d1, d2⟩ := hS b c1
        exact ⟨a, d1, by rw [lkT_in b1 d2]; exact c2⟩
      · rintro ⟨a, c1, c2⟩
        obtain ⟨b, d1, d2⟩ := hA a c1
        rw [lkT_in b1 d2] at c2
        exact ⟨b, d1, c2⟩
      · obtain ⟨x', d1, d2⟩ := hA x hx
        obtain ⟨y', d3, d4⟩ := hA y hy
        rw [lkT_in b1 d2, lkT_in b1 d4] at e
        rw [lkT_in b1 d2] at e0
        have := g6 x' y' d1 d3 e e0
        rw [← this] at d4
        exact congrArg Prod.fst (b1.2 _ d2 _ d4 (Or.inr rfl))
  · cases f4
end CV
