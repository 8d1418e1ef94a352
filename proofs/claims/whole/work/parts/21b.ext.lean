/-! ===== maps that are told later change nothing ===== -/
def extE (E E' : EV) : Prop := ∀ m : Nat, m < 8 → (0 ≤ E.1 m → E'.1 m = E.1 m ∧ E'.2.1 m = E.2.1 m ∧ E'.2.2 m = E.2.2 m) ∧ (E.1 m < 0 → E.2.2 m ≤ 0)
section EX
variable {E E' : EV} {S : ST} {t : Int}
theorem room_ext (hx : extE E E') {g : Nat} {v : VL} (o : okV E g t v) (b n : Int) : room E' v b n = room E v b n := by
  have key : (if vk v = 5 then E'.2.2 (vw v).toNat else vw v) = (if vk v = 5 then E.2.2 (vw v).toNat else vw v) := by
    by_cases k : vk v = 5
    · rw [if_pos k, if_pos k]
      have q := o.2.2.2.2.1 (Or.inl k)
      have z := hx (vw v).toNat (by omega)
      exact (z.1 (by omega)).2.2
    · rw [if_neg k, if_neg k]
  unfold room
  rw [key]
theorem lod_ext (hx : extE E E') (ho : okS E t S) {w : B64} (hs : fS w ≤ 10) : lodV E' S w = lodV E S w := by
  unfold lodV
  simp only [room_ext hx (rV_ok ho (sR_10 hs))]
theorem sto_ext (hx : extE E E') (ho : okS E t S) {w : B64} (hd : fD w ≤ 10) : stoV E' S w = stoV E S w := by
  unfold stoV
  simp only [room_ext hx (rV_ok ho (dR_10 hd))]
theorem swp_ext (hx : extE E E') (ho : okS E t S) {w : B64} (hd : fD w ≤ 10) : swpV E' S w = swpV E S w := by
  unfold swpV
  simp only [room_ext hx (rV_ok ho (dR_10 hd))]
theorem wntM_ext (hx : extE E E') {g : Nat} {x : VL} (o : okV E g t x) (a b : Int) : wntM E' x a b = wntM E x a b := by
  unfold wntM
  congr 1
  by_cases k : vk x = 4
  · have q := o.2.2.2.1 k
    have z := (hx (vw x).toNat (by omega)).1 q.2.2
    rw [z.1]
  · have e1 : decide (vk x = 4 ∧ a ≤ E'.1 (vw x).toNat ∧ E'.1 (vw x).toNat ≤ b) = false := decide_eq_false fun q => k q.1
    have e2 : decide (vk x = 4 ∧ a ≤ E.1 (vw x).toNat ∧ E.1 (vw x).toNat ≤ b) = false := decide_eq_false fun q => k q.1
    rw [e1, e2]
theorem wntB_ext (hx : extE E E') {g : Nat} {x : VL} (o : okV E g t x) (n : Int) : wntB E' S x n = wntB E S x n := by
  unfold wntB
  simp only [room_ext hx o]
theorem hlpF_ext (hx : extE E E') (ho : okS E t S) {h : Int} (hf : hlpF E S h = 0) : hlpF E' S h = 0 := by
  have o : ∀ r, r ≤ 10 → okV E (sF S - 1) t (rgV S r) := fun r hr => rV_ok ho hr
  have sz : wntM E (rgV S 1) 0 1 = 0 → E'.2.1 (vw (rgV S 1)).toNat = E.2.1 (vw (rgV S 1)).toNat ∧ E'.2.2 (vw (rgV S 1)).toNat = E.2.2 (vw (rgV S 1)).toNat := fun a => by
    have q := (wntA_0 a).2.2
    have q : vk (rgV S 1) = 4 ∧ 0 ≤ E.1 (vw (rgV S 1)).toNat ∧ E.1 (vw (rgV S 1)).toNat ≤ 1 := by simpa using q
    have z := (o 1 (by omega)).2.2.2.1 q.1
    have y := (hx (vw (rgV S 1)).toNat (by omega)).1 z.2.2
    exact y.2
  unfold hlpF at hf ⊢
  by_cases c1 : h = 1 ∨ h = 3
  · rw [if_pos c1] at hf ⊢
    have s := sz (fst_0 hf).1
    rw [wntM_ext hx (o 1 (by omega)), wntB_ext hx (o 2 (by omega)), s.1]
    exact hf
  · rw [if_neg c1] at hf ⊢
    by_cases c2 : h = 2
    · rw [if_pos c2] at hf ⊢
      have s := sz (fst_0 (fst_0 (fst_0 hf).1).1).1
      rw [wntM_ext hx (o 1 (by omega)), wntB_ext hx (o 2 (by omega)), wntB_ext hx (o 3 (by omega)), s.1, s.2]
      exact hf
    · rw [if_neg c2] at hf ⊢
      simp only [wntM_ext hx (o 1 (by omega)), wntM_ext hx (o 2 (by omega)), wntB_ext hx (o 1 (by omega)), room_ext hx (o 3 (by omega))]
      exact hf
theorem hlpJ_ext (hx : extE E E') (ho : okS E t S) {h n : Int} (hf : (hlpJ E S h n t).1 = 0) : hlpJ E' S h n t = hlpJ E S h n t := by
  have h0 : hlpF E S h = 0 := by
    refine Decidable.byContradiction fun e => ?_
    unfold hlpJ at hf
    rw [if_pos e] at hf
    exact e hf
  unfold hlpJ
  rw [if_neg (not_not_intro h0), if_neg (not_not_intro (hlpF_ext hx ho h0))]
theorem stp_ext (hx : extE E E') (ho : okS E t S) {w w2 : B64} {i : Int} (hw : okI w w2) (hf : (stpJ E S i w w2 t).1 = 0) : stpJ E' S i w w2 t = stpJ E S i w w2 t := by
  have fr := fld_rng w
  unfold stpJ at hf ⊢
  by_cases l0 : fL w = 0
  · rw [if_pos l0] at hf ⊢
    rw [if_pos l0]
    have hp : okPr w w2 := by
      rcases hw with hw | hw
      · exact hw.2
      · exfalso
        have : okPl w := hw
        unfold okPl at this
        rw [if_pos l0] at this
        exact this
    by_cases s0 : fS w = 0
    · rw [if_pos s0, if_pos s0]
    · rw [if_neg s0] at hf ⊢
      rw [if_neg s0]
      split at hf
      · exfalso; have hf : (15 : Int) = 0 := hf; omega
      · rename_i e0
        have i7 : 0 ≤ fI w ∧ fI w ≤ 7 := by have := hp.2; omega
        have z := ((hx (fI w).toNat (by omega)).1 (by omega)).1
        rw [if_neg e0, if_neg (by rw [z]; exact e0)]
  · rw [if_neg l0] at hf ⊢
    rw [if_neg l0]
    have hw : okPl w := by
      rcases hw with hw | hw
      · exact absurd hw.1 l0
      · exact hw
    unfold okPl at hw
    rw [if_neg l0] at hw
    by_cases l4 : fL w = 4 ∨ fL w = 7
    · rw [if_pos l4, if_pos l4]
    · rw [if_neg l4] at hf hw ⊢
      rw [if_neg l4]
      by_cases l5 : fL w = 5 ∨ fL w = 6
      · rw [if_pos l5] at hf ⊢
        rw [if_pos l5]
        by_cases j1 : fOp w = 5 ∨ fOp w = 6
        · rw [if_pos j1, if_pos j1]
        · rw [if_neg j1] at hf ⊢
          rw [if_neg j1]
          by_cases j2 : fOp w = 149
          · rw [if_pos j2, if_pos j2]
          · rw [if_neg j2] at hf ⊢
            rw [if_neg j2]
            by_cases j3 : fOp w = 133
            · rw [if_pos j3] at hf ⊢
              rw [if_pos j3]
              by_cases s1 : fS w = 1
              · rw [if_pos s1, if_pos s1]
              · rw [if_neg s1] at hf ⊢
                rw [if_neg s1]
                exact hlpJ_ext hx ho hf
            · rw [if_neg j3, if_neg j3]
      · rw [if_neg l5] at hf hw ⊢
        rw [if_neg l5]
        unfold okMem at hw
        by_cases l1 : fL w = 1
        · rw [if_pos l1] at hw ⊢
          rw [if_pos l1, lod_ext hx ho hw.2.2.1]
        · rw [if_neg l1] at hw ⊢
          rw [if_neg l1]
          have d10 : fD w ≤ 10 := by
            split at hw
            · exact hw.2.1
            · split at hw
              · exact hw.1
              · exact hw.1.2
          by_cases m : fL w = 3 ∧ fM w = 192
          · rw [if_pos m, if_pos m, swp_ext hx ho d10]
          · rw [if_neg m, if_neg m, sto_ext hx ho d10]
theorem ins_ext {G : Int → Prop} {p : Int → B64} (hx : extE E E') (hp : okP G p) {w : WK} (hw : wfI E G w) (h0 : (insK E p w).1 = 0) : insK E' p w = insK E p w := by
  obtain ⟨⟨ho, hm, hk, hi⟩, -, -⟩ := hw
  unfold insK at h0 ⊢
  by_cases c : yG w = 4000
  · rw [if_pos c, if_pos c]
  · rw [if_neg c] at h0 ⊢
    rw [if_neg c]
    have f0 : (stpJ E (yS w) (yA w) (p (yA w)) (p (yA w + 1)) (yT w)).1 = 0 := by
      refine Decidable.byContradiction fun e => ?_
      simp only [e, not_false_eq_true, if_true] at h0
    rw [stp_ext hx ho (hp _ hi).1 f0]
theorem itr_ext {G : Int → Prop} {p : Int → B64} {J : Int → Bool} (hx : extE E E') (hp : okP G p) {first : Bool} {w : WK} (hw : wfI E G w) (h0 : (itrK E p J first w).1 = 0) : itrK E' p J first w = itrK E p J first w := by
  have wm : (if J (yA w) = true ∧ first = false then meeK w else (0, false, w)).2.1 = false → wfI E G (if J (yA w) = true ∧ first = false then meeK w else (0, false, w)).2.2 := by
    split
    · unfold meeK
      split
      · split
        · intro _; exact hw
        · intro q; cases q
      · split
        · intro _; exact hw
        · intro _
          obtain ⟨f1, f2, f3⟩ := hw
          refine ⟨f1, fun k hk => ?_, f3⟩
          show goS E G (yT w) (kS (upK (yH w) (yNn w) (yS w, yA w, (yK w : Int), yF w, 1, 0) k)) (kA (upK (yH w) (yNn w) (yS w, yA w, (yK w : Int), yF w, 1, 0) k))
          have hk : k < yNn w + 1 := hk
          by_cases e : k = yNn w
          · have : upK (yH w) (yNn w) (yS w, yA w, (yK w : Int), yF w, 1, 0) k = (yS w, yA w, (yK w : Int), yF w, 1, 0) := if_pos e
            rw [this]
            exact f1
          · have : upK (yH w) (yNn w) (yS w, yA w, (yK w : Int), yF w, 1, 0) k = yH w k := if_neg e
            rw [this]
            exact f2 k (by omega)
    · intro _; exact hw
  unfold itrK at h0 ⊢
  generalize (if J (yA w) = true ∧ first = false then meeK w else (0, false, w)) = m at *
  obtain ⟨m1, m2, m3⟩ := m
  simp only at h0 wm ⊢
  by_cases z : m1 = 0
  · simp only [z, not_true_eq_false, if_false] at h0 ⊢
    cases m2 with
    | true => rfl
    | false =>
      simp only [Bool.false_eq_true, if_false] at h0 ⊢
      have i0 : (insK E p m3).1 = 0 := by
        refine Decidable.byContradiction fun e => ?_
        simp only [e, not_false_eq_true, if_true] at h0
      rw [ins_ext hx hp (wm rfl) i0]
  · simp only [z, not_false_eq_true, if_true]
/-- a machine of which nothing is asked -/
def dumB : WB Unit := (fun _ => 0, fun _ _ _ => 0#64, fun w _ _ _ => w, fun _ _ => false, fun _ _ => 0)
def dumH : WH Unit := (fun _ _ => 0#64, fun w _ => w, fun _ _ _ => none, fun w _ _ _ _ => (w, 0#64), fun w _ _ => (w, 0#64), fun _ => 0#64, fun w _ => w, fun w => (w, 0#64), fun _ _ _ => none, fun _ _ n => (List.replicate n 0#64, 0#64), fun w _ => (w, 0#64), fun w _ _ => (w, none), fun w _ _ => w)
theorem dum_B : okB dumB := ⟨fun _ _ _ _ => ⟨rfl, rfl, rfl⟩, fun _ _ _ => by show (0#64).toNat < 256; decide, fun _ => by show 0 ≤ 256; decide⟩
theorem dum_H : okH dumB dumH := by
  refine ⟨fun _ _ => by show (0#64).toNat < 4294967296; decide, fun _ _ => ⟨rfl, rfl, rfl⟩, fun _ _ _ _ h => (by cases h), fun _ _ _ _ _ => ⟨rfl, rfl, rfl⟩, fun _ _ _ => ⟨rfl, rfl, rfl⟩, fun _ _ => ⟨rfl, rfl, rfl⟩, fun _ => ⟨⟨rfl, rfl, rfl⟩, by show (0#64).toNat < 4294967296; decide⟩, fun _ _ _ _ h => (by cases h), fun _ _ n => ⟨List.length_replicate .., fun y hy => ?_⟩, fun _ _ => ⟨rfl, rfl⟩, fun _ _ _ => ⟨rfl, fun _ => ⟨rfl, rfl⟩, fun i h => (by cases h)⟩, fun _ _ _ => ⟨rfl, rfl, fun j _ => ?_⟩⟩
  · have : y = 0#64 := List.eq_of_mem_replicate hy
    rw [this]
    decide
  · show (false = true) ↔ (_ ∧ false = true)
    simp
/-- what is taken stays taken -/
theorem wlk_ext {G : Int → Prop} {p : Int → B64} {J : Int → Bool} {S0 : ST} (hE : okE E) (hx : extE E E') (hp : okP G p) : ∀ (n : Nat) (first : Bool) (w w' : WK) (D : Nat → Int), INV dumB dumH E p id S0 G w D → wlkK E p J n first w = some (0, w') → wlkK E' p J n first w = some (0, w') := by
  intro n
  induction n with
  | zero => intro first w w' D _ h; cases h
  | succ n ih =>
    intro first w w' D h e
    unfold wlkK at e ⊢
    by_cases z : (itrK E p J first w).1 = 0
    · rw [itr_ext hx hp h.2.2.2.2.2 z]
      rw [if_neg (not_not_intro z)] at e ⊢
      have g := itr_i (J := J) dum_B dum_H hE (fun _ => ⟨rfl, rfl, rfl⟩) hp h z
      split at e
      · rename_i o
        rw [if_pos o]
        exact e
      · rename_i o
        rw [if_neg o]
        obtain ⟨D', h'⟩ := g.2 (by simpa using o)
        exact ih _ _ _ _ h' e
    · rw [if_pos z] at e
      simp only [Option.some.injEq, Prod.mk.injEq] at e
      exact absurd e.1 z
end EX
