/-! ===== known, on both sides ===== -/
/-- what is known is states as the walk has them -/
def kI (x : Int → Option ST) : Prop := ∀ i S, x i = some S → canS S ∧ xS S ∧ 1 ≤ sF S ∧ ∀ r, r < 10 → okK (rgV S r)
section KNOW
variable {E : EV} {G : Int → Prop} {p : Int → B64} {J : Int → Bool} {S0 : ST} {σ τ : MS} {k s : Nat} {X : Int → Option ST}
theorem mee_k (w : WK) : (meeK w).2.2.2.2.2.2.2 = w.2.2.2.2.2 := by
  unfold meeK
  split
  · split <;> rfl
  · split <;> rfl
theorem ins_k (w : WK) (h : kI w.2.2.2.2.2) (hc : canS (yS w) ∧ xS (yS w) ∧ 1 ≤ sF (yS w) ∧ ∀ r, r < 10 → okK (rgV (yS w) r)) : kI (insK E p w).2.2.2.2.2.2.2 := by
  have a : kI (fun i => if i = yA w then some (yS w) else w.2.2.2.2.2 i) := fun i S e => by
    have e : (if i = yA w then some (yS w) else w.2.2.2.2.2 i) = some S := e
    by_cases c : i = yA w
    · rw [if_pos c] at e
      cases e
      exact hc
    · rw [if_neg c] at e
      exact h i S e
  unfold insK
  split
  · exact h
  · dsimp only
    split
    · exact a
    · split
      · exact a
      · split
        · exact a
        · exact a
      · exact a
theorem wlk_kn (hE : okE E) (hp : okP G p) (hG : ∀ x, G x → 0 ≤ x ∧ x < 200) : ∀ (n : Nat) (first : Bool) (w w' : WK) (D : Nat → Int) (f : Int), INV dumB dumH E p id S0 G w D → exI w → xI w → kI w.2.2.2.2.2 → wlkK E p J n first w = some (f, w') → kI w'.2.2.2.2.2 := by
  intro n
  induction n with
  | zero => intro first w w' D f _ _ _ _ h; cases h
  | succ n ih =>
    intro first w w' D f I X XI K h
    have ei : itrK E p J first w = (let m := if J (yA w) = true ∧ first = false then meeK w else (0, false, w)
        if ¬ m.1 = 0 then (m.1, false, m.2.2)
        else
          let s := if m.2.1 = true then (0, true, m.2.2) else insK E p m.2.2
          if ¬ s.1 = 0 then (s.1, false, s.2.2)
          else if s.2.1 = true then (if yM s.2.2 = 0 then (0, true, s.2.2) else (0, false, popK s.2.2))
          else (0, false, s.2.2)) := rfl
    obtain ⟨m, em⟩ : ∃ m, m = (if J (yA w) = true ∧ first = false then meeK w else (0, false, w)) := ⟨_, rfl⟩
    have mk : m.2.2.2.2.2.2.2 = w.2.2.2.2.2 := by
      rw [em]
      split
      · exact mee_k w
      · rfl
    have Km : kI m.2.2.2.2.2.2.2 := by rw [mk]; exact K
    have mx : m.1 = 0 → m.2.1 = false → (∃ D, INV dumB dumH E p id S0 G m.2.2 D) ∧ exI m.2.2 ∧ xI m.2.2 := fun z1 z2 => by
      by_cases c : J (yA w) = true ∧ first = false
      · rw [if_pos c] at em
        rw [em] at z1 z2 ⊢
        obtain ⟨q1, q2, q3, q4, q5⟩ := (mee_x X (by have := (inv_B I X).2.2; omega) z1).1 z2
        exact ⟨(mee_i I z1).1 z2, q1, (mee_xi XI z1).1 z2⟩
      · rw [if_neg c] at em
        rw [em]
        exact ⟨⟨D, I⟩, X, XI⟩
    have mp : m.1 = 0 → m.2.1 = true → ¬ yM m.2.2 = 0 → (∃ D, INV dumB dumH E p id S0 G (popK m.2.2) D) ∧ exI (popK m.2.2) ∧ xI (popK m.2.2) := fun z1 z2 z3 => by
      by_cases c : J (yA w) = true ∧ first = false
      · rw [if_pos c] at em
        rw [em] at z1 z2 z3 ⊢
        exact ⟨((mee_i I z1).2 z2).2 z3, (mee_x X (by have := (inv_B I X).2.2; omega) z1).2 z2 z3, (mee_xi XI z1).2 z2 z3⟩
      · rw [if_neg c] at em
        rw [em] at z2
        cases z2
    rw [← em] at ei
    simp only at ei
    unfold wlkK at h
    have nxt : ∀ (w1 : WK), itrK E p J first w = (0, false, w1) → (∃ D, INV dumB dumH E p id S0 G w1 D) → exI w1 → xI w1 → kI w1.2.2.2.2.2 → kI w'.2.2.2.2.2 := fun w1 e I1 X1 XI1 K1 => by
      rw [e] at h
      have h : wlkK E p J n false w1 = some (f, w') := h
      obtain ⟨D1, I1⟩ := I1
      exact ih false w1 w' D1 f I1 X1 XI1 K1 h
    by_cases z1 : m.1 = 0
    · by_cases z2 : m.2.1 = true
      · by_cases z3 : yM m.2.2 = 0
        · rw [if_neg (not_not_intro z1), if_pos z2, if_neg (not_not_intro rfl), if_pos rfl, if_pos z3] at ei
          rw [ei] at h
          have h : some ((0 : Int), m.2.2) = some (f, w') := h
          cases h
          exact Km
        · rw [if_neg (not_not_intro z1), if_pos z2, if_neg (not_not_intro rfl), if_pos rfl, if_neg z3] at ei
          obtain ⟨y1, y2, y3⟩ := mp z1 z2 z3
          exact nxt _ ei y1 y2 y3 Km
      · have z2' : m.2.1 = false := by
          cases hb : m.2.1
          · rfl
          · exact absurd hb z2
        obtain ⟨⟨D1, I1⟩, X1, XI1⟩ := mx z1 z2'
        rw [if_neg (not_not_intro z1), if_neg z2] at ei
        have ok1 := I1.2.2.2.2.2.1
        have go1 := hp _ ok1.2.2.2
        have G1 := (inv_B I1 X1).2.2
        have ix := ins_x X1 ok1.1 (by omega) go1.1 hE
        have ii := ins_i dum_B dum_H hE (fun _ => ⟨rfl, rfl, rfl⟩) hp I1
        have xx := ins_xi (E := E) XI1 ok1.1 go1.1
        have Ks : kI (insK E p m.2.2).2.2.2.2.2.2.2 := ins_k m.2.2 Km ⟨X1.1.1, XI1.1, ok1.1.1.1, fun r hr => (rV_ok ok1.1 (by omega)).1⟩
        by_cases y1 : (insK E p m.2.2).1 = 0
        · by_cases y2 : (insK E p m.2.2).2.1 = true
          · by_cases y3 : yM (insK E p m.2.2).2.2 = 0
            · rw [if_neg (not_not_intro y1), if_pos y2, if_pos y3] at ei
              rw [ei] at h
              have h : some ((0 : Int), (insK E p m.2.2).2.2) = some (f, w') := h
              cases h
              exact Ks
            · rw [if_neg (not_not_intro y1), if_pos y2, if_neg y3] at ei
              exact nxt _ ei (((ii y1).2 y2).2 y3) ((ix y1).2 y2 y3) ((xx y1).2 y2 y3) Ks
          · have y2' : (insK E p m.2.2).2.1 = false := by
              cases hb : (insK E p m.2.2).2.1
              · rfl
              · exact absurd hb y2
            rw [if_neg (not_not_intro y1), if_neg y2] at ei
            exact nxt _ ei ((ii y1).1 y2') ((ix y1).1 y2') ((xx y1).1 y2') Ks
        · rw [if_pos y1] at ei
          rw [ei, if_pos y1] at h
          cases h
          exact Ks
    · rw [if_pos z1] at ei
      rw [ei, if_pos z1] at h
      cases h
      exact Km
/-- the judge knows such states -/
theorem jud_kn {p : Nat → B64} {n : Nat} {r : JD} (hE : okE E) (n0 : 0 < n) (n200 : n ≤ 200) (h : judR E p n r) : kI r.2.2.2 := by
  rcases h with ⟨i, S, hf, rfl⟩ | ⟨S, hf, h⟩
  · intro i S e
    cases e
  · rcases h with ⟨i, hc, rfl⟩ | ⟨hc, f, e, w, hw, rfl⟩
    · intro i S e
      cases e
    · have hp := okP_of (p := p) (n := n) hf (fun i hi hS' => plc_n (n + 1) 0 (by omega) hc i (Nat.zero_le _) hi hS')
      have S00 := (frm_s _ _ _ _ hf (by omega)).2.1 n0
      have g0 : GP n S 0 := ⟨⟨Int.le_refl _, by omega⟩, S00⟩
      exact wlk_kn hE hp (fun y hy => ⟨hy.1.1, by have := hy.1.2; omega⟩) f true (begK S0J) w (fun _ => 0) e (beg_i ⟨S0_ok, S0_m, fun f f1 f2 => by
        have f2 : f < 1 := f2
        exfalso
        omega, g0⟩) beg_x beg_xi (fun i S e => by cases e) hw
/-! what is asked -/
theorem T28 {i r x : Int} : MM 28 [mR (some 39), mI i, mI r, mI x] σ = some (some (mL (if (0 ≤ i ∧ i < 200) ∧ (0 ≤ r ∧ r < 10) ∧ (0 ≤ x ∧ x ≤ 9) ∧ ¬ gI σ 52 i.toNat = 0 then gL σ 53 (110 * i.toNat + (11 * r.toNat + x.toNat)) else iL (-1))), σ) := by
  rw [M28, e28_0]
  by_cases c1 : i < 0
  · rw [if_pos c1, if_neg (show ¬ ((0 ≤ i ∧ i < 200) ∧ (0 ≤ r ∧ r < 10) ∧ (0 ≤ x ∧ x ≤ 9) ∧ ¬ gI σ 52 i.toNat = 0) from fun z => by omega)]
  rw [if_neg c1]
  by_cases c2 : 200 ≤ i
  · rw [if_pos c2, if_neg (show ¬ ((0 ≤ i ∧ i < 200) ∧ (0 ≤ r ∧ r < 10) ∧ (0 ≤ x ∧ x ≤ 9) ∧ ¬ gI σ 52 i.toNat = 0) from fun z => by omega)]
  rw [if_neg c2]
  by_cases c3 : r < 0
  · rw [if_pos c3, if_neg (show ¬ ((0 ≤ i ∧ i < 200) ∧ (0 ≤ r ∧ r < 10) ∧ (0 ≤ x ∧ x ≤ 9) ∧ ¬ gI σ 52 i.toNat = 0) from fun z => by omega)]
  rw [if_neg c3]
  by_cases c4 : 10 ≤ r
  · rw [if_pos c4, if_neg (show ¬ ((0 ≤ i ∧ i < 200) ∧ (0 ≤ r ∧ r < 10) ∧ (0 ≤ x ∧ x ≤ 9) ∧ ¬ gI σ 52 i.toNat = 0) from fun z => by omega)]
  rw [if_neg c4]
  by_cases c5 : x < 0
  · rw [if_pos c5, if_neg (show ¬ ((0 ≤ i ∧ i < 200) ∧ (0 ≤ r ∧ r < 10) ∧ (0 ≤ x ∧ x ≤ 9) ∧ ¬ gI σ 52 i.toNat = 0) from fun z => by omega)]
  rw [if_neg c5]
  by_cases c6 : 9 < x
  · rw [if_pos c6, if_neg (show ¬ ((0 ≤ i ∧ i < 200) ∧ (0 ≤ r ∧ r < 10) ∧ (0 ≤ x ∧ x ≤ 9) ∧ ¬ gI σ 52 i.toNat = 0) from fun z => by omega)]
  have b52 : 0 ≤ i ∧ i < 200 := by omega
  have b53 : 0 ≤ ((110 * i.toNat + (11 * r.toNat + x.toNat) : Nat) : Int) ∧ ((110 * i.toNat + (11 * r.toNat + x.toNat) : Nat) : Int) < 22000 := by omega
  rw [if_neg c6, if_pos (by rw [g_52]; exact b52)]
  by_cases c7 : gI σ 52 i.toNat = 0
  · rw [if_neg (fun z => z c7), if_neg (show ¬ ((0 ≤ i ∧ i < 200) ∧ (0 ≤ r ∧ r < 10) ∧ (0 ≤ x ∧ x ≤ 9) ∧ ¬ gI σ 52 i.toNat = 0) from fun z => z.2.2.2 c7)]
  · have ew : w32 (w32 (w32 (i * 110) + w32 (r * 11)) + x) = ((110 * i.toNat + (11 * r.toNat + x.toNat) : Nat) : Int) := by
      rw [w32_i (x := i * 110) (by omega) (by omega), w32_i (x := r * 11) (by omega) (by omega), w32_i (x := i * 110 + r * 11) (by omega) (by omega), w32_i (by omega) (by omega)]
      omega
    rw [if_pos c7, ew, if_pos (by rw [g_53]; exact b53), if_pos (show (0 ≤ i ∧ i < 200) ∧ (0 ≤ r ∧ r < 10) ∧ (0 ≤ x ∧ x ≤ 9) ∧ ¬ gI σ 52 i.toNat = 0 from ⟨b52, by omega, by omega, c7⟩), Int.toNat_natCast]
theorem T305 {i r x : Int} : MM 305 [mR (some 0), mI i, mI r, mI x] σ = some (some (mL (if (0 ≤ i ∧ i < 200) ∧ (0 ≤ r ∧ r < 10) ∧ (0 ≤ x ∧ x ≤ 9) ∧ ¬ gI σ 52 i.toNat = 0 then gL σ 53 (110 * i.toNat + (11 * r.toNat + x.toNat)) else iL (-1))), σ) := by
  rw [M305, e305_0, T28]
  simp only [Option.bind_some, Option.toList_some, Option.toList_none, List.cons_append, List.nil_append]
  rw [e305_10]
theorem k491a {i r : Nat} (h : i < 200) (h2 : r < 10) : w32 (w32 (40 * (i : Int)) + w32 (4 * (r : Int))) = ((40 * i + 4 * r : Nat) : Int) := by
  rw [w32_i (x := 40 * (i : Int)) (by omega) (by omega), w32_i (x := 4 * (r : Int)) (by omega) (by omega), w32_i (by omega) (by omega)]
  omega
theorem k491b {i r : Nat} (h : i < 200) (h2 : r < 10) : w32 (w32 (60 * (i : Int)) + w32 (6 * (r : Int))) = ((60 * i + 6 * r : Nat) : Int) := by
  rw [w32_i (x := 60 * (i : Int)) (by omega) (by omega), w32_i (x := 6 * (r : Int)) (by omega) (by omega), w32_i (by omega) (by omega)]
  omega
theorem k491c {a x : Nat} (ha : a < 100000) (hx : 1 ≤ x ∧ x < 10) : w32 (w32 ((a : Int) + (x : Int)) - 1) = ((a + x - 1 : Nat) : Int) := by
  rw [w32_i (x := (a : Int) + (x : Int)) (by omega) (by omega), w32_i (by omega) (by omega)]
  omega
theorem k491d {a x : Nat} (ha : a < 100000) (hx : 6 ≤ x ∧ x < 10) : w32 (w32 ((a : Int) + (x : Int)) - 6) = ((a + x - 6 : Nat) : Int) := by
  rw [w32_i (x := (a : Int) + (x : Int)) (by omega) (by omega), w32_i (by omega) (by omega)]
  omega
def kn491 (σ : MS) (i r x : Nat) : B64 := if x = 0 then iL (gI σ 141 (40 * i + 4 * r)) else if x < 7 then gL σ 140 (60 * i + 6 * r + x - 1) else iL (gI σ 141 (40 * i + 4 * r + x - 6))
theorem T491 {i r x : Int} : MM 491 [mR (some 80), mI i, mI r, mI x] σ = some (some (mL (if (0 ≤ i ∧ i < 200) ∧ (0 ≤ r ∧ r < 10) ∧ (0 ≤ x ∧ x ≤ 9) ∧ ¬ gI σ 139 i.toNat = 0 then kn491 σ i.toNat r.toNat x.toNat else iL (-1))), σ) := by
  rw [M491, e491_0]
  by_cases c1 : i < 0
  · rw [if_pos c1, if_neg (show ¬ ((0 ≤ i ∧ i < 200) ∧ (0 ≤ r ∧ r < 10) ∧ (0 ≤ x ∧ x ≤ 9) ∧ ¬ gI σ 139 i.toNat = 0) from fun z => by omega)]
  rw [if_neg c1]
  by_cases c2 : 200 ≤ i
  · rw [if_pos c2, if_neg (show ¬ ((0 ≤ i ∧ i < 200) ∧ (0 ≤ r ∧ r < 10) ∧ (0 ≤ x ∧ x ≤ 9) ∧ ¬ gI σ 139 i.toNat = 0) from fun z => by omega)]
  have b52 : 0 ≤ i ∧ i < 200 := by omega
  rw [if_neg c2, if_pos (by rw [g_139]; exact b52)]
  by_cases c7 : gI σ 139 i.toNat = 0
  · rw [if_pos c7, if_neg (show ¬ ((0 ≤ i ∧ i < 200) ∧ (0 ≤ r ∧ r < 10) ∧ (0 ≤ x ∧ x ≤ 9) ∧ ¬ gI σ 139 i.toNat = 0) from fun z => z.2.2.2 c7)]
  rw [if_neg c7]
  by_cases c3 : r < 0
  · rw [if_pos c3, if_neg (show ¬ ((0 ≤ i ∧ i < 200) ∧ (0 ≤ r ∧ r < 10) ∧ (0 ≤ x ∧ x ≤ 9) ∧ ¬ gI σ 139 i.toNat = 0) from fun z => by omega)]
  rw [if_neg c3]
  by_cases c4 : 9 < r
  · rw [if_pos c4, if_neg (show ¬ ((0 ≤ i ∧ i < 200) ∧ (0 ≤ r ∧ r < 10) ∧ (0 ≤ x ∧ x ≤ 9) ∧ ¬ gI σ 139 i.toNat = 0) from fun z => by omega)]
  rw [if_neg c4]
  by_cases c5 : x < 0
  · rw [if_pos c5, if_neg (show ¬ ((0 ≤ i ∧ i < 200) ∧ (0 ≤ r ∧ r < 10) ∧ (0 ≤ x ∧ x ≤ 9) ∧ ¬ gI σ 139 i.toNat = 0) from fun z => by omega)]
  rw [if_neg c5]
  by_cases c6 : x ≤ 9
  · have b : (0 ≤ i ∧ i < 200) ∧ (0 ≤ r ∧ r < 10) ∧ (0 ≤ x ∧ x ≤ 9) ∧ ¬ gI σ 139 i.toNat = 0 := ⟨b52, by omega, by omega, c7⟩
    rw [if_pos c6, if_pos b]
    obtain ⟨i, rfl⟩ : ∃ n : Nat, i = (n : Int) := ⟨i.toNat, by omega⟩
    obtain ⟨r, rfl⟩ : ∃ n : Nat, r = (n : Int) := ⟨r.toNat, by omega⟩
    obtain ⟨x, rfl⟩ : ∃ n : Nat, x = (n : Int) := ⟨x.toNat, by omega⟩
    rw [Int.toNat_natCast, Int.toNat_natCast, Int.toNat_natCast]
    unfold kn491
    have q40 : w32 (w32 (40 * (i : Int)) + w32 (4 * (r : Int))) = ((40 * i + 4 * r : Nat) : Int) := k491a (by omega) (by omega)
    have q60 : w32 (w32 (60 * (i : Int)) + w32 (6 * (r : Int))) = ((60 * i + 6 * r : Nat) : Int) := k491b (by omega) (by omega)
    by_cases x0 : x = 0
    · rw [if_neg (show ¬ ¬ (x : Int) = 0 by omega), if_pos x0]
      rw [q40, if_pos (by rw [g_141]; omega), Int.toNat_natCast]
    · rw [if_pos (show ¬ (x : Int) = 0 by omega), if_neg x0]
      by_cases x7 : x < 7
      · rw [if_neg (show ¬ 7 ≤ (x : Int) by omega), if_pos x7, q60, k491c (by omega) (by omega), if_pos (by rw [g_140]; omega), Int.toNat_natCast]
      · rw [if_pos (show 7 ≤ (x : Int) by omega), if_neg x7, q40, k491d (by omega) (by omega), if_pos (by rw [g_141]; omega), Int.toNat_natCast]
  · rw [if_neg c6, if_neg (show ¬ ((0 ≤ i ∧ i < 200) ∧ (0 ≤ r ∧ r < 10) ∧ (0 ≤ x ∧ x ≤ 9) ∧ ¬ gI σ 139 i.toNat = 0) from fun z => by omega)]
theorem kn_v {v : VL} (hc : canV v) (hr : vk v = 0 → vr v = 0) (hk : okK v) : (if vk v = 0 then iL (vr v) else jV (vn v)) = jV (rcN v) ∧ jM (vn v) = jM (rcN v) ∧ jA (vn v) = jA (rcN v) ∧ jB (vn v) = jB (rcN v) ∧ jC (vn v) = jC (rcN v) ∧ jD (vn v) = jD (rcN v) ∧ (if vk v = 0 then 0#64 else iL (vr v)) = iL (vr v) := by
  obtain ⟨c1, c0, c2, _⟩ := hc
  have hk : 0 ≤ vk v ∧ vk v ≤ 10 := hk
  by_cases k0 : vk v = 0
  · have hv := (c0 k0).1
    have z : vr v = 0 := hr k0
    have n0 : vn v = cstN 0#64 := by
      rw [hv]
      rfl
    unfold rcN
    rw [if_pos k0, if_pos k0, if_neg (show ¬ (vk v = 1 ∨ vk v = 5 ∨ vk v = 7 ∨ vk v = 9) by omega), z, n0]
    exact ⟨rfl, rfl, rfl, rfl, rfl, rfl, rfl⟩
  · rw [if_neg k0, if_neg k0]
    unfold rcN
    by_cases k1 : vk v = 1 ∨ vk v = 5 ∨ vk v = 7 ∨ vk v = 9
    · rw [if_pos k1]
      exact ⟨rfl, rfl, rfl, rfl, rfl, rfl, rfl⟩
    · have n0 := c2 (by omega)
      rw [if_neg k1, n0]
      exact ⟨rfl, rfl, rfl, rfl, rfl, rfl, rfl⟩
/-- the same is known on both sides -/
theorem kn_eq {i r x : Nat} (hx : kI X) (hc : KNc σ X) (hr : KN σ X) (hi : i < 200) (h10 : r < 10) (h9 : x ≤ 9) : (gI σ 52 i = 0 ↔ gI σ 139 i = 0) ∧ (¬ gI σ 139 i = 0 → gL σ 53 (110 * i + (11 * r + x)) = kn491 σ i r x) := by
  obtain ⟨a1, a2⟩ := hc i hi
  obtain ⟨b1, b2'⟩ := hr i hi
  cases e : X (i : Int) with
  | none => exact ⟨⟨fun _ => b2' e, fun _ => a2 e⟩, fun z => absurd (b2' e) z⟩
  | some S =>
    obtain ⟨c1, c2⟩ := a1 S e
    obtain ⟨d1, d2⟩ := b1 S e
    obtain ⟨h1, h2, h3, h4⟩ := hx _ S e
    refine ⟨⟨fun z => by omega, fun z => by omega⟩, fun _ => ?_⟩
    rw [c2 r x h10 (by omega)]
    obtain ⟨⟨p0, p1, p2, p3, p4, p5⟩, q0, q1, q2, q3⟩ := d2 r h10
    have hk : 26 * (sF S - 1) + r < 26 * sF S := by omega
    have ev : rgV S r = sV S (26 * (sF S - 1) + r) := by
      unfold rgV
      rw [if_neg (by omega)]
    have cv : canV (rgV S r) := by
      rw [ev]
      exact h1 _ hk
    have zv : vk (rgV S r) = 0 → vr (rgV S r) = 0 := by
      rw [ev]
      exact h2.2 _ hk (by omega)
    obtain ⟨v1, v2, v3, v4, v5, v6, v9⟩ := kn_v cv zv (h4 r h10)
    unfold enV kn491
    rcases (by omega : x = 0 ∨ x = 1 ∨ x = 2 ∨ x = 3 ∨ x = 4 ∨ x = 5 ∨ x = 6 ∨ x = 7 ∨ x = 8 ∨ x = 9) with rfl | rfl | rfl | rfl | rfl | rfl | rfl | rfl | rfl | rfl
    · rw [if_pos rfl, if_pos rfl, q0]
    · exact v1.trans p0.symm
    · exact v2.trans p1.symm
    · exact v3.trans p2.symm
    · exact v4.trans p3.symm
    · exact v5.trans p4.symm
    · exact v6.trans p5.symm
    · exact (congrArg iL q1).symm
    · exact (congrArg iL q2).symm
    · exact v9.trans (congrArg iL q3).symm
end KNOW
