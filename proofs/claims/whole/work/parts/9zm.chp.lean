/-! ===== the class's runs: helpers; LOOKUP, UPDATE, REMOVE ===== -/
/-- a ROW's keys have 4 bytes -/
def okRow (E : EV) : Prop := ∀ m, m < 8 → E.1 m = 0 → E.2.1 m = 4
/-- what a call of a helper leaves -/
def hpC (σ : MS) (φ : Nat → Nat) (c : TC WR) (hh nx : Int) (k : Nat) (c' : TC WR) : Prop := ∃ v τ ψ, MM 197 [mR (some 71), mI hh] σ = some (some (mL v), τ) ∧ mvC σ τ ∧ gI τ 71 9 = gI σ 71 9 ∧
  ((k = 0 ∧ gI τ 71 8 = gI σ 71 8 ∧ ∃ R S W u, c' = (nx, cN c, upR (nilA R (cN c - 1)) (cN c - 1) 0 u, S, cB c, W) ∧ RelC τ ψ (cP c, cN c, R, S, cB c, W) ∧ v = enK ψ u ∧ okSV u ∧ (300 ≤ u.1 → u.1 ≤ 363 ∧ ¬ wg W 152 (u.1 - 300) = 0))
  ∨ (k = 2 ∧ cN c = 1 ∧ gI τ 71 8 = 0 ∧ RelC τ ψ (st0 (cW c')) ∧ slO (cW c) (cW c')))
section CHP
variable {σ τ ρ : MS} {W V : WR} {c c' d : TC WR} {m n p q p0 e j i z N C r o k : Nat} {L : List B64} {y nx hh : Int} {E : EV} {φ ψ : Nat → Nat} {x v : B64} {S : Nat → Nat → MB} {u : SV}
theorem hpC_b (hN : cN d = cN c) (hB : cB d = cB c) (t : MM 197 [mR (some 71), mI hh] σ = some (some (mL v), τ)) (mv : mvC σ τ) (g9 : gI τ 71 9 = gI σ 71 9) (g8 : gI τ 71 8 = gI σ 71 8) (rel : RelC τ ψ (cP c, cN c, cR d, S, cB c, W)) (ev : v = enK ψ u) (ok : okSV u) (lv : 300 ≤ u.1 → u.1 ≤ 363 ∧ ¬ wg W 152 (u.1 - 300) = 0) (e : bhT d S W u nx = some (k, c')) : hpC σ φ c hh nx k c' := by
  obtain ⟨ek, ec⟩ := Prod.mk.inj (Option.some.inj e)
  rw [hN, hB] at ec
  exact ⟨v, τ, ψ, t, mv, g9, Or.inl ⟨ek.symm, g8, cR d, S, W, u, ec.symm, rel, ev, ok, lv⟩⟩
theorem lv_0 {x : B64} : 300 ≤ ((0, x) : SV).1 → ((0, x) : SV).1 ≤ 363 ∧ ¬ wg W 152 (((0, x) : SV).1 - 300) = 0 := fun z => absurd z (show ¬ 300 ≤ (0 : Nat) by decide)
theorem mp_C (h : RelC σ φ c) (hr : r ≤ 10) (mp : isMap (rdR c r)) : ∃ m : Nat, m < 8 ∧ mapT (rdR c r) = (m : Int) ∧ gL σ 76 r = iL ((m : Int) + 1) := by
  have mp' : 8 ≤ (rdR c r).1 ∧ (rdR c r).1 ≤ 15 := mp
  obtain ⟨e1, k1⟩ := rd_C h hr (by omega)
  have z := k1.2.1 mp'.1 mp'.2
  refine ⟨(rdR c r).1 - 8, by omega, by show ((rdR c r).1 : Int) - 8 = _; omega, ?_⟩
  rw [e1]
  show enG (adC φ) (rdR c r) = _
  rw [enG_p (by omega), z, BitVec.add_zero]
  unfold adC
  rw [if_pos mp']
  exact congrArg iL (by omega)
/-- bytes that a register leads to -/
theorem ag_C (h : RelC σ φ c) (hr : r ≤ 10) (hn : 1 ≤ n) (e : rdL RB c (rdR c r).1 (rdR c r).2.toNat n = some L) : ∃ p, p + n ≤ 25364 ∧ gL σ 76 r = iL (1048576 + (p : Int)) ∧ L = rmC σ p n := by
  obtain ⟨ob, pb, hl⟩ := rdL_C h _ _ _ e
  have o0 := ob 0 (by omega)
  unfold obR at o0
  obtain ⟨e1, k1⟩ := rd_C h hr (by omega)
  refine ⟨_, pb hn, ?_, hl⟩
  rw [e1]
  show enG (adC φ) (rdR c r) = _
  rw [enG_p (by omega), ← ad_C (by omega), BitVec.ofNat_toNat, BitVec.setWidth_eq]
theorem okm_C (C : CEO σ E) (hE : okE E) (hR : okRow E) (h : wldC σ φ W) (hI : invW W) (hm : m < 8) (hk : 0 ≤ E.1 m ∧ E.1 m ≤ 1) : okmC σ m ∧ (wg W 97 m = E.2.1 m ∧ wg W 98 m = E.2.2 m) ∧ (1 ≤ wg W 97 m ∧ 1 ≤ wg W 98 m) := by
  obtain ⟨a1, a2, _⟩ := h.1.1 m hm
  have a1' := a1
  obtain ⟨c1, c2, c3, c4, c5⟩ := a1'
  obtain ⟨q1, q2, q3, q4⟩ := C m hm
  have nz : ¬ gI σ 29 m = 0 := fun z => by have := q3 z; omega
  obtain ⟨q5, _⟩ := q4 nz
  obtain ⟨_, e1⟩ := hE m hm hk.1
  obtain ⟨e2, e3⟩ := e1 hk.2
  have b7 : wg W 97 m = E.2.1 m := c3.trans q1
  have b8 : wg W 98 m = E.2.2 m := c4.trans q2
  have b6 : wg W 96 m = E.1 m := c2.trans q5.symm
  refine ⟨okm_e a1 a2 hI hm (by omega) (by omega) (by omega) (fun z => ?_), ⟨b7, b8⟩, by omega, by omega⟩
  rw [b7]
  exact hR m hm (b6.symm.trans z)
/-- up to the key's place -/
theorem L199 (C : CEO σ E) (hm : m < 8) (hk : 0 ≤ E.1 m ∧ E.1 m ≤ 1) (r1 : gL σ 76 1 = iL ((m : Int) + 1)) (r2 : gL σ 76 2 = iL (1048576 + (p : Int))) (e7 : gI σ 31 m = (n : Int)) (hp : p + n ≤ 25364) : MM 199 [mR (some 71), mI hh] σ = RR (lkB tb199) (B199_70, [some (mR (some 71)), some (mI hh), some (mI (m : Int)), none, none], [mI (p : Int)], σ) := by
  have b0 : 0 ≤ (m : Int) ∧ (m : Int) < 8 := by omega
  have t1 : (iL ((m : Int) + 1)).toInt = (m : Int) + 1 := iLt (by omega) (by omega)
  have z1 : (BitVec.ofNat 64 1).toInt = 1 := by decide
  have z8 : (iL 8).toInt = 8 := by decide
  have n1 : ¬ (m : Int) + 1 < 1 := by omega
  have n2 : (m : Int) + 1 ≤ 8 := by omega
  have l1 : lI (iL ((m : Int) + 1)) = (m : Int) + 1 := lI_s (by omega)
  have w1 : w32 ((m : Int) + 1 - 1) = (m : Int) := by
    rw [w32_i (by omega) (by omega)]
    omega
  have t46 := T46 C hm
  rw [b2_yes hk] at t46
  have t87 := T187 (σ := σ) hp
  have i1 : (1 : Int).toNat = 1 := rfl
  have i2 : (2 : Int).toNat = 2 := rfl
  have n0 : ¬ (1 : Int) = 0 := by decide
  rw [M199, e199_0]
  simp only [Option.getD_some, Option.bind_some, Option.toList_some, Option.toList_none, List.cons_append, List.nil_append, and_self, and_true, true_and, false_and, and_false, ite_self, not_true_eq_false, not_false_eq_true, reduceIte, Nat.reduceEqDiff, ab_I, ab_L, ab_R, ao_I, ao_L, ao_R, gL_sL, gI_sI, gR_sR, gI_sL, gI_sR, gL_sI, gL_sR, gR_sI, gR_sL, g_76, Int.reduceLE, Int.reduceLT, i1, r1, t1, z1, z8, n1, n2, if_true, if_false, l1, w1]
  rw [e199_37, t46]
  simp only [Option.getD_some, Option.bind_some, Option.toList_some, Option.toList_none, List.cons_append, List.nil_append, and_self, and_true, true_and, false_and, and_false, ite_self, not_true_eq_false, not_false_eq_true, reduceIte, Nat.reduceEqDiff, ab_I, ab_L, ab_R, ao_I, ao_L, ao_R, gL_sL, gI_sI, gR_sR, gI_sL, gI_sR, gL_sI, gL_sR, gR_sI, gR_sL]
  rw [e199_46]
  simp only [Option.getD_some, Option.bind_some, Option.toList_some, Option.toList_none, List.cons_append, List.nil_append, and_self, and_true, true_and, false_and, and_false, ite_self, not_true_eq_false, not_false_eq_true, reduceIte, Nat.reduceEqDiff, ab_I, ab_L, ab_R, ao_I, ao_L, ao_R, gL_sL, gI_sI, gR_sR, gI_sL, gI_sR, gL_sI, gL_sR, gR_sI, gR_sL, n0, g_76, Int.reduceLE, Int.reduceLT, i2, r2, g_31, b0.1, b0.2, Int.toNat_natCast, e7, t87]
theorem hp_1C (h : RelC σ φ c) (hb : bOk σ) (hI : invW (cW c)) (C : CEO σ E) (hE : okE E) (hR : okRow E) (hK : hpK RB E c 1) (e : hpT RB RH E c 1 nx = some (k, c')) : hpC σ φ c 1 nx k c' := by
  unfold hpT at e
  rw [if_pos (Or.inl rfl)] at e
  have hK := hK.1 (Or.inl rfl)
  by_cases mp : isMap (rdR c 1)
  · rw [if_neg (not_not_intro mp)] at e
    obtain ⟨m, hm, em, r1⟩ := mp_C h (r := 1) (by decide) mp
    rw [em, Int.toNat_natCast] at e hK
    have wl := h.2.2.2.2.2
    obtain ⟨o, ⟨b7, b8⟩, l7, l8⟩ := okm_C C hE hR wl hI hm hK
    obtain ⟨N, hN⟩ : ∃ N : Nat, N = (E.2.1 m).toNat := ⟨_, rfl⟩
    have eN : wg (cW c) 97 m = (N : Int) := by omega
    have e7 : gI σ 31 m = (N : Int) := (C m hm).1.trans (by omega)
    rw [← hN] at e
    cases ek : rdL RB c (rdR c 2).1 (rdR c 2).2.toNat N with
    | none =>
      rw [ek] at e
      cases e
    | some L =>
      rw [ek] at e
      dsimp only at e
      rw [if_pos rfl] at e
      obtain ⟨p, hp, r2, hL⟩ := ag_C h (r := 2) (by decide) (by omega) ek
      have t0 := L199 (hh := 1) C hm hK r1 r2 e7 hp
      have p0 : 0 ≤ (p : Int) := by omega
      have n1 : ¬ ¬ (1 : Int) = 1 := by decide
      have t49 := T49 (σ := σ) (p := p) hm o (by rw [e7, Int.toNat_natCast]; exact hp)
      obtain ⟨a1, a2, _⟩ := wl.1.1 m hm
      have fe := fin_eC (p := p) hm o a1 a2 hb
      rw [eN, Int.toNat_natCast, ← hL] at fe
      have fe' : RH.2.2.1 (cW c) (m : Int) L = (finR (cW c) m (L.map kpW)).filter fun j => decide (j < 32) := rfl
      rw [fe', fe] at e
      cases q : fenC σ m p with
      | none =>
        rw [q] at e t49
        have e : bhT c (cS c) (cW c) (0, 0#64) nx = some (k, c') := e
        have i1 : ioN none = -1 := rfl
        have nn : ¬ (0 : Int) ≤ -1 := by decide
        rw [i1] at t49
        have t1 : MM 199 [mR (some 71), mI 1] σ = some (some (mL (BitVec.ofNat 64 0)), σ) := by
          rw [t0, e199_70]
          simp only [p0, if_true, not_true_eq_false, if_false, t49, Option.getD_some, Option.bind_some, Option.toList_some, Option.toList_none, List.cons_append, List.nil_append, and_self, and_true, true_and, false_and, and_false, ite_self, not_true_eq_false, not_false_eq_true, reduceIte, Nat.reduceEqDiff, ab_I, ab_L, ab_R, ao_I, ao_L, ao_R, gL_sL, gI_sI, gR_sR, gI_sL, gI_sR, gL_sI, gL_sR, gR_sI, gR_sL]
          rw [e199_98]
          simp only [nn, if_false]
        refine hpC_b (v := BitVec.ofNat 64 0) (τ := σ) (ψ := φ) rfl rfl ?_ mvC_r rfl rfl h enG_0.symm okSV_0 lv_0 e
        rw [M197, e197_0]
        simp only [if_true, t1, Option.getD_some, Option.bind_some, Option.toList_some, Option.toList_none, List.cons_append, List.nil_append, and_self, and_true, true_and, false_and, and_false, ite_self, not_true_eq_false, not_false_eq_true, reduceIte, Nat.reduceEqDiff, ab_I, ab_L, ab_R, ao_I, ao_L, ao_R, gL_sL, gI_sI, gR_sR, gI_sL, gI_sR, gL_sI, gL_sR, gR_sI, gR_sL, e197_113]
      | some en =>
        have e16 := fen_16 o q
        obtain ⟨o1, o2, o3, o4, o5, o6⟩ := o
        have h5 : ¬ gI σ 30 m = 0 → 0 ≤ gI σ 35 (16 * m + en) ∧ gI σ 35 (16 * m + en) < 32 := fun k0 => by
          refine (o6 (by omega)).2 en ?_
          unfold fenC at q
          rw [if_neg k0] at q
          have := List.mem_range.mp (List.mem_of_find?_eq_some q)
          have := (o6 (by omega)).1
          omega
        have c32 : cellC σ m en < 32 := by
          unfold cellC
          split
          · omega
          · rename_i z
            have := h5 z
            omega
        have t50 := T50 (σ := σ) hm e16 h5
        rw [q] at e t49
        have e : (match (some (cellC σ m en) : Option Nat).filter fun j => decide (j < 32) with
          | none => bhT c (cS c) (cW c) (0, 0#64) nx
          | some j => bhT c (cS c) (cW c) (16 + 32 * m + j, 0#64) nx) = some (k, c') := e
        rw [Option.filter_some, if_pos (decide_eq_true c32)] at e
        have e : bhT c (cS c) (cW c) (16 + 32 * m + cellC σ m en, 0#64) nx = some (k, c') := e
        have i1 : ioN (some en) = (en : Int) := rfl
        have e0 : 0 ≤ (en : Int) := by omega
        rw [i1] at t49
        have t1 : MM 199 [mR (some 71), mI 1] σ = some (some (mL (iL 1048576 + iL ((788 + 64 * (32 * m + cellC σ m en) : Nat) : Int))), σ) := by
          rw [t0, e199_70]
          simp only [p0, if_true, not_true_eq_false, if_false, t49, Option.getD_some, Option.bind_some, Option.toList_some, Option.toList_none, List.cons_append, List.nil_append, and_self, and_true, true_and, false_and, and_false, ite_self, not_true_eq_false, not_false_eq_true, reduceIte, Nat.reduceEqDiff, ab_I, ab_L, ab_R, ao_I, ao_L, ao_R, gL_sL, gI_sI, gR_sR, gI_sL, gI_sR, gL_sI, gL_sR, gR_sI, gR_sL]
          rw [e199_98]
          simp only [e0, if_true, t50, Option.getD_some, Option.bind_some, Option.toList_some, Option.toList_none, List.cons_append, List.nil_append, and_self, and_true, true_and, false_and, and_false, ite_self, not_true_eq_false, not_false_eq_true, reduceIte, Nat.reduceEqDiff, ab_I, ab_L, ab_R, ao_I, ao_L, ao_R, gL_sL, gI_sI, gR_sR, gI_sL, gI_sR, gL_sI, gL_sR, gR_sI, gR_sL]
          rw [e199_122]
        have ev : iL 1048576 + iL ((788 + 64 * (32 * m + cellC σ m en) : Nat) : Int) = enK φ (16 + 32 * m + cellC σ m en, 0#64) := by
          show _ = enG (adC φ) (16 + 32 * m + cellC σ m en, 0#64)
          rw [enG_n (show ¬ 16 + 32 * m + cellC σ m en = 0 by omega), show (0#64 : B64) = BitVec.ofNat 64 0 from rfl, ad_C (by omega), pl_c (by omega), iLa]
          exact congrArg iL (by omega)
        refine hpC_b (τ := σ) (ψ := φ) rfl rfl ?_ mvC_r rfl rfl h ev (okSV_p (Or.inr (Or.inl (by omega)))) (fun z => by have z : 300 ≤ 16 + 32 * m + cellC σ m en := z; omega) e
        rw [M197, e197_0]
        simp only [if_true, t1, Option.getD_some, Option.bind_some, Option.toList_some, Option.toList_none, List.cons_append, List.nil_append, and_self, and_true, true_and, false_and, and_false, ite_self, not_true_eq_false, not_false_eq_true, reduceIte, Nat.reduceEqDiff, ab_I, ab_L, ab_R, ao_I, ao_L, ao_R, gL_sL, gI_sI, gR_sR, gI_sL, gI_sR, gL_sI, gL_sR, gR_sI, gR_sL, e197_113]
  · rw [if_pos mp] at e
    cases e
/-- the store, place by place -/
theorem MS_x (h : ∀ k s, gI τ k s = gI σ k s) (h2 : τ.2 = σ.2) : τ = σ := by
  obtain ⟨a, b⟩ := τ
  obtain ⟨a', b'⟩ := σ
  have h2 : b = b' := h2
  have h1 : a = a' := funext fun k => funext fun s => h k s
  rw [h1, h2]
theorem hp_3C (h : RelC σ φ c) (hb : bOk σ) (hI : invW (cW c)) (C : CEO σ E) (hE : okE E) (hR : okRow E) (hK : hpK RB E c 3) (e : hpT RB RH E c 3 nx = some (k, c')) : hpC σ φ c 3 nx k c' := by
  unfold hpT at e
  rw [if_pos (Or.inr (Or.inr rfl))] at e
  have hK := hK.1 (Or.inr (Or.inr rfl))
  by_cases mp : isMap (rdR c 1)
  · rw [if_neg (not_not_intro mp)] at e
    obtain ⟨m, hm, em, r1⟩ := mp_C h (r := 1) (by decide) mp
    rw [em, Int.toNat_natCast] at e hK
    have wl := h.2.2.2.2.2
    obtain ⟨o, ⟨b7, b8⟩, l7, l8⟩ := okm_C C hE hR wl hI hm hK
    obtain ⟨N, hN⟩ : ∃ N : Nat, N = (E.2.1 m).toNat := ⟨_, rfl⟩
    have eN : wg (cW c) 97 m = (N : Int) := by omega
    have e7 : gI σ 31 m = (N : Int) := (C m hm).1.trans (by omega)
    rw [← hN] at e
    cases ek : rdL RB c (rdR c 2).1 (rdR c 2).2.toNat N with
    | none =>
      rw [ek] at e
      cases e
    | some L =>
      rw [ek] at e
      dsimp only at e
      rw [if_neg (by decide), if_pos rfl] at e
      obtain ⟨p, hp, r2, hL⟩ := ag_C h (r := 2) (by decide) (by omega) ek
      have t0 := L199 (hh := 3) C hm hK r1 r2 e7 hp
      have p0 : 0 ≤ (p : Int) := by omega
      obtain ⟨τ, t, wt, t2, gt⟩ := rem_C (p := p) wl hb hI hm o (by rw [eN, Int.toNat_natCast]; exact hp)
      rw [eN, Int.toNat_natCast, ← hL] at t wt
      have lg := gL_2 t2
      have e : bhT c (cS c) (remR (cW c) m (L.map kpW) 1).1 (0, BitVec.ofInt 64 (remR (cW c) m (L.map kpW) 1).2) nx = some (k, c') := e
      have t1 : MM 199 [mR (some 71), mI 3] σ = some (some (mL (iL (remR (cW c) m (L.map kpW) 1).2)), τ) := by
        rw [t0, e199_70]
        simp only [p0, if_true, show ¬ (3 : Int) = 1 by decide, not_false_eq_true, not_true_eq_false, if_false, t, Option.getD_some, Option.bind_some, Option.toList_some, Option.toList_none, List.cons_append, List.nil_append, and_self, and_true, true_and, false_and, and_false, ite_self, not_true_eq_false, not_false_eq_true, reduceIte, Nat.reduceEqDiff, ab_I, ab_L, ab_R, ao_I, ao_L, ao_R, gL_sL, gI_sI, gR_sR, gI_sL, gI_sR, gL_sI, gL_sR, gR_sI, gR_sL]
        rw [e199_146]
      have k2 : ∀ s, wg (remR (cW c) m (L.map kpW) 1).1 152 s = wg (cW c) 152 s := fun s => (sm3_rem (cW c) m (L.map kpW) 1).2.1 s
      have rel : RelC τ φ (cP c, cN c, cR c, cS c, cB c, (remR (cW c) m (L.map kpW) 1).1) := RelC_w h (gt _ _ (by omega)) (fun k s _ => lg k s) (fun s => gt _ _ (by omega)) (fun s _ _ => gt _ _ (by omega)) (fun i _ z => by rw [k2]; exact z) wt
      refine hpC_b (ψ := φ) rfl rfl ?_ ⟨fun k s z => gt k s (by omega), fun k s _ _ => lg k s, by rw [t2]⟩ (gt _ _ (by omega)) (gt _ _ (by omega)) rel enG_0.symm okSV_0 lv_0 e
      rw [M197, e197_0]
      simp only [show ¬ (3 : Int) = 1 by decide, show ¬ (3 : Int) = 2 by decide, if_true, if_false, t1, Option.getD_some, Option.bind_some, Option.toList_some, Option.toList_none, List.cons_append, List.nil_append, and_self, and_true, true_and, false_and, and_false, ite_self, not_true_eq_false, not_false_eq_true, reduceIte, Nat.reduceEqDiff, ab_I, ab_L, ab_R, ao_I, ao_L, ao_R, gL_sL, gI_sI, gR_sR, gI_sL, gI_sR, gL_sI, gL_sR, gR_sI, gR_sL, e197_113]
      rfl
  · rw [if_pos mp] at e
    cases e
theorem hp_2C (h : RelC σ φ c) (hb : bOk σ) (hI : invW (cW c)) (C : CEO σ E) (hE : okE E) (hR : okRow E) (hK : hpK RB E c 2) (e : hpT RB RH E c 2 nx = some (k, c')) : hpC σ φ c 2 nx k c' := by
  unfold hpT at e
  rw [if_pos (Or.inr (Or.inl rfl))] at e
  have hK := hK.1 (Or.inr (Or.inl rfl))
  by_cases mp : isMap (rdR c 1)
  · rw [if_neg (not_not_intro mp)] at e
    obtain ⟨m, hm, em, r1⟩ := mp_C h (r := 1) (by decide) mp
    rw [em, Int.toNat_natCast] at e hK
    have wl := h.2.2.2.2.2
    obtain ⟨o, ⟨b7, b8⟩, l7, l8⟩ := okm_C C hE hR wl hI hm hK
    obtain ⟨N, hN⟩ : ∃ N : Nat, N = (E.2.1 m).toNat := ⟨_, rfl⟩
    obtain ⟨Z, hZ⟩ : ∃ Z : Nat, Z = (E.2.2 m).toNat := ⟨_, rfl⟩
    have eN : wg (cW c) 97 m = (N : Int) := by omega
    have eZ : wg (cW c) 98 m = (Z : Int) := by omega
    have e7 : gI σ 31 m = (N : Int) := (C m hm).1.trans (by omega)
    have e8 : gI σ 32 m = (Z : Int) := (C m hm).2.1.trans (by omega)
    rw [← hN, ← hZ] at e
    cases ek : rdL RB c (rdR c 2).1 (rdR c 2).2.toNat N with
    | none =>
      rw [ek] at e
      cases e
    | some L =>
      rw [ek] at e
      dsimp only at e
      rw [if_neg (by decide), if_neg (by decide)] at e
      cases ev : rdL RB c (rdR c 3).1 (rdR c 3).2.toNat Z with
      | none =>
        rw [ev] at e
        cases e
      | some L3 =>
        rw [ev] at e
        dsimp only at e
        by_cases n4 : ¬ (rdR c 4).1 = 0
        · rw [if_pos n4] at e
          cases e
        · rw [if_neg n4] at e
          have z4 : (rdR c 4).1 = 0 := Decidable.byContradiction n4
          obtain ⟨r4, _⟩ := rd_C h (r := 4) (by decide) (by omega)
          have r4 : gL σ 76 4 = (rdR c 4).2 := r4.trans (enG_z z4)
          obtain ⟨p, hp, r2, hL⟩ := ag_C h (r := 2) (by decide) (by omega) ek
          obtain ⟨q, hq, r3, hL3⟩ := ag_C h (r := 3) (by decide) (by omega) ev
          have t0 := L199 (hh := 2) C hm hK r1 r2 e7 hp
          have p0 : 0 ≤ (p : Int) := by omega
          have q0 : 0 ≤ (q : Int) := by omega
          have b0 : 0 ≤ (m : Int) ∧ (m : Int) < 8 := by omega
          have t87 := T187 (σ := σ) hq
          have t52 := T52 (σ := σ) (p := p) (q := q) (x := (rdR c 4).2) hm o (by rw [e7, Int.toNat_natCast]; exact hp) (by rw [e8, Int.toNat_natCast]; exact hq)
          obtain ⟨ue, wt⟩ := upd_W (p := p) (q := q) (f := (rdR c 4).2.toInt) wl hb hI hm o
          rw [eN, eZ, Int.toNat_natCast, Int.toNat_natCast, ← hL, ← hL3] at ue wt
          have e : bhT c (cS c) (updR (cW c) m (L.map kpW) (L3.map kpW) (rdR c 4).2.toInt).1 (0, BitVec.ofInt 64 (updR (cW c) m (L.map kpW) (L3.map kpW) (rdR c 4).2.toInt).2) nx = some (k, c') := e
          have gt : ∀ k s, ¬ (k = 28 ∨ k = 34 ∨ k = 35 ∨ k = 37 ∨ (k = 27 ∧ 788 ≤ s)) → gI (updC σ m p q (rdR c 4).2.toInt).1 k s = gI σ k s := fun k s z => by
            have gv : ∀ (ρ : MS) (C : Nat), gI (vpC ρ m C q) k s = gI ρ k s := fun ρ C => by
              unfold vpC
              show (if k = 27 ∧ ((788 + 64 * (32 * m + C) : Nat) : Int) ≤ (s : Int) ∧ (s : Int) < ((788 + 64 * (32 * m + C) : Nat) : Int) + gI ρ 32 m then ρ.1 27 _ else ρ.1 k s) = _
              rw [if_neg (by omega)]
              rfl
            have gn : ∀ C, gI (nwC σ m p C) k s = gI σ k s := fun C => by
              unfold nwC
              rw [gI_sI, if_neg (by omega), gI_sI, if_neg (by omega), gI_sI, if_neg (by omega), cpI_o (by omega)]
            unfold updC
            repeat' split
            all_goals first | rfl | exact gv _ _ | exact (gv _ _).trans (gn _)
          have g2 : (updC σ m p q (rdR c 4).2.toInt).1.2 = σ.2 := by
            unfold updC
            repeat' split
            all_goals rfl
          have lg := gL_2 g2
          have t1 : MM 199 [mR (some 71), mI 2] σ = some (some (mL (iL (updC σ m p q (rdR c 4).2.toInt).2)), (updC σ m p q (rdR c 4).2.toInt).1) := by
            have i3 : (3 : Int).toNat = 3 := rfl
            have i4 : (4 : Int).toNat = 4 := rfl
            rw [t0, e199_70]
            simp only [p0, if_true, show ¬ (2 : Int) = 1 by decide, show ¬ (2 : Int) = 3 by decide, not_false_eq_true, if_false, Option.getD_some, Option.bind_some, Option.toList_some, Option.toList_none, List.cons_append, List.nil_append, and_self, and_true, true_and, false_and, and_false, ite_self, not_true_eq_false, not_false_eq_true, reduceIte, Nat.reduceEqDiff, ab_I, ab_L, ab_R, ao_I, ao_L, ao_R, gL_sL, gI_sI, gR_sR, gI_sL, gI_sR, gL_sI, gL_sR, gR_sI, gR_sL, g_76, Int.reduceLE, Int.reduceLT, i3, r3, g_32, b0.1, b0.2, Int.toNat_natCast, e8, t87]
            rw [e199_167]
            simp only [q0, if_true, Option.getD_some, Option.bind_some, Option.toList_some, Option.toList_none, List.cons_append, List.nil_append, and_self, and_true, true_and, false_and, and_false, ite_self, not_true_eq_false, not_false_eq_true, reduceIte, Nat.reduceEqDiff, ab_I, ab_L, ab_R, ao_I, ao_L, ao_R, gL_sL, gI_sI, gR_sR, gI_sL, gI_sR, gL_sI, gL_sR, gR_sI, gR_sL, g_76, Int.reduceLE, Int.reduceLT, i4, r4, t52]
            rw [e199_209]
          have k2 : ∀ s, wg (updR (cW c) m (L.map kpW) (L3.map kpW) (rdR c 4).2.toInt).1 152 s = wg (cW c) 152 s := fun s => (sm3_upd (cW c) m (L.map kpW) (L3.map kpW) (rdR c 4).2.toInt).2.1 s
          have rel : RelC (updC σ m p q (rdR c 4).2.toInt).1 φ (cP c, cN c, cR c, cS c, cB c, (updR (cW c) m (L.map kpW) (L3.map kpW) (rdR c 4).2.toInt).1) := RelC_w h (gt _ _ (by omega)) (fun k s _ => lg k s) (fun s => gt _ _ (by omega)) (fun s _ _ => gt _ _ (by omega)) (fun i _ z => by rw [k2]; exact z) wt
          refine hpC_b (ψ := φ) rfl rfl ?_ ⟨fun k s z => gt k s (by omega), fun k s _ _ => lg k s, by rw [g2]⟩ (gt _ _ (by omega)) (gt _ _ (by omega)) rel enG_0.symm okSV_0 lv_0 e
          rw [M197, e197_0]
          simp only [show ¬ (2 : Int) = 1 by decide, if_true, if_false, t1, Option.getD_some, Option.bind_some, Option.toList_some, Option.toList_none, List.cons_append, List.nil_append, and_self, and_true, true_and, false_and, and_false, ite_self, not_true_eq_false, not_false_eq_true, reduceIte, Nat.reduceEqDiff, ab_I, ab_L, ab_R, ao_I, ao_L, ao_R, gL_sL, gI_sI, gR_sR, gI_sL, gI_sR, gL_sI, gL_sR, gR_sI, gR_sL, e197_113, ue]
          rfl
  · rw [if_pos mp] at e
    cases e
end CHP
