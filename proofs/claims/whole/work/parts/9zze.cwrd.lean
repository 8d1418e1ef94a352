/-! ===== the class's plain code: words that move one register ===== -/
/-- a machine whose words are told by where their operations stand -/
def bm (st : Nat → Int) (c : TC WR) : TC WR := (st (cP c).toNat, cN c, cR c, cS c, (fun f => st (cB c f).toNat), cW c)
/-- a word's operations lie from place P on, and the run stands there -/
def wdC (σ : MS) (s K N : Nat) (st : Nat → Int) (P : Nat) (L : List Q4) : Prop := (cdC σ s K N ∧ s < 8 ∧ 153 ≤ K) ∧ ¬ gI σ 17 s = 0 ∧ gI σ 71 9 = 0 ∧ gI σ 71 8 = (P : Int) ∧ P + L.length ≤ N ∧ atC σ K P true (L.map (finQ st))
/-- behind an instruction of a run over plain code -/
def stq1 (st : Nat → Int) (σ τ : MS) (ψ : Nat → Nat) (c : TC WR) (k : Nat) (c' : TC WR) : Prop := mvC σ τ ∧
  ((k = 0 ∧ RelC τ ψ (bm st c') ∧ gI τ 71 8 = st (cP c').toNat ∧ gI τ 71 9 = 0)
  ∨ (k = 1 ∧ RelC τ ψ (bm st c) ∧ c' = c ∧ gI τ 71 9 = 1 ∧ gL τ 76 0 = (rdR c 0).2)
  ∨ (k = 2 ∧ cN c = 1 ∧ RelC τ ψ (st0 (cW c')) ∧ gI τ 71 8 = 0 ∧ gI τ 71 9 = 0 ∧ slO (cW c) (cW c')))
section CWRD
variable {σ τ ρ υ ω : MS} {w w2 X Y v : B64} {m n f i j s t N K P Q d e : Nat} {x' : Nat} {a b o x y : Int} {g : Nat → B64} {c c' : TC WR} {φ ψ : Nat → Nat} {st : Nat → Int} {L : List Q4} {u : SV}
theorem RelC_e (h : RelC ρ φ c) (gi : ∀ k z, ¬ (k = 71 ∧ z = 8) → gI τ k z = gI ρ k z) (g76 : ∀ r, r ≤ 10 → gL τ 76 r = gL ρ 76 r) (gl : ∀ k z, ¬ k = 76 → gL τ k z = gL ρ k z) : RelC τ φ c := by
  obtain ⟨⟨a1, a2⟩, ⟨b1, b2, b3⟩, d, bk, l, wl⟩ := h
  obtain ⟨hM, k4, k5, k6, k7, k8, k9, k10, k11⟩ := wl
  refine ⟨⟨a1, (gi _ _ (by omega)).trans a2⟩, ⟨fun r hr => ⟨(b1 r hr).1, fun z => (g76 r (by omega)).trans ((b1 r hr).2 z)⟩, fun f r hf hr => ⟨(b2 f r hf hr).1, fun z => (gl _ _ (by decide)).trans ((b2 f r hf hr).2 z)⟩, (g76 10 (by omega)).trans b3⟩, fun f b hf hb => ?_, fun f f1 f2 => (gi _ _ (by omega)).trans (bk f f1 f2), l, wldM_r hM (fun k s z => gi _ _ (by omega)) (fun s z => gi _ _ (by omega)) (fun _ _ _ => rfl), wcV_q k4 (fun s z => gi _ _ (by omega)) (fun _ => rfl), fun s z => by rw [gi _ _ (by omega)]; exact k5 s z, wcZ_q k6 (fun s z => gi _ _ (by omega)) (fun _ _ => rfl), wcG_q k7 (fun s => gi _ _ (by omega)) (fun _ => rfl), wcX_q k8 (fun s => gi _ _ (by omega)) (fun _ => rfl) rfl, wcC_q k9 (fun s z => gi _ _ (by omega)) rfl, wcY_q k10 (fun s z => gi _ _ (by omega)) (fun _ _ => rfl), wcL_q k11 (gl _ _ (by decide)) (gl _ _ (by decide)) rfl⟩
  have := d f b hf hb
  rw [← gi 27 (256 + 128 * f + b) (by omega)] at this
  exact this
theorem adv_e : advC σ x' true = sL (sI σ 71 8 ((x' + 1 : Nat) : Int)) 71 16 (gL σ 71 16 + BitVec.ofNat 64 1) := rfl
theorem fin_r : ∀ (L : List Q4), (∀ q ∈ L, ropQ q) → L.map (finQ st) = L := by
  intro L
  induction L with
  | nil => intro _; rfl
  | cons q L ih =>
    intro h
    have q1 := (h q (List.mem_cons_self ..)).1.2
    have e : finQ st q = q := if_neg (by omega)
    rw [List.map_cons, e, ih (fun r hr => h r (List.mem_cons_of_mem _ hr))]
/-- one register is moved -/
theorem w1_r (h : RelC σ φ (bm st c)) (W : wdC σ s K N st P L) (L0 : ¬ L = []) (R : resQ L (fun r => gL σ 76 r) d v) (hd : d < 10) (ev : v = enK φ u) (ku : okSV u) (lv : 300 ≤ u.1 → u.1 ≤ 363 ∧ ¬ wg (cW c) 152 (u.1 - 300) = 0) : ∃ τ, trs L.length σ τ ∧ mvC σ τ ∧ RelC τ φ (bm st (wrR (cP c, cN c, cR c, cS c, cB c, RT (cW c)) d u)) ∧ gI τ 71 8 = ((P + L.length : Nat) : Int) ∧ gI τ 71 9 = 0 := by
  obtain ⟨⟨C, s8, K3⟩, h17, h9, h8, hN, A⟩ := W
  rw [fin_r L R.1] at A
  obtain ⟨τ, t, b1, b2, b3, b4, b5, b6⟩ := blk K3 s8 L P true σ C h17 h9 h8 hN A R.1
  have f1 : stF true L = 1#64 := by
    cases L with
    | nil => exact absurd rfl L0
    | cons q L => rfl
  rw [f1] at b5
  refine ⟨τ, t, ⟨fun k z y => b1 k z (fun e => y (by omega)), fun k z y1 y2 => b4 k z (fun e => y1 (Or.inl e)) (fun e => y2 ⟨e.1, Or.inr e.2⟩), b6⟩, ?_, b2, (b1 _ _ (by omega)).trans h9⟩
  have r1 : RelC (advC σ P true) φ (cP (bm st c), cN c, cR c, cS c, cB (bm st c), RT (cW c)) := ct_C h
  have r2 := wr_C r1 hd ev ku lv
  have r3 : RelC τ φ (wrR (cP (bm st c), cN c, cR c, cS c, cB (bm st c), RT (cW c)) d u) := RelC_e r2 (fun k z y => by
    rw [gI_sL, adv_I y]
    exact b1 k z y) (fun r hr => by
    rw [b3 r, gL_sL]
    by_cases e : r = d
    · rw [if_pos ⟨rfl, e⟩, e]
      exact R.2.1
    · rw [if_neg (fun z => e z.2), adv_L (fun z => absurd z.1 (by decide))]
      exact R.2.2 r hr e) (fun k z y => by
    rw [gL_sL, if_neg (fun e => y e.1)]
    by_cases e : k = 71 ∧ z = 16
    · rw [e.1, e.2, b5, adv_16]
      rfl
    · rw [adv_L e]
      exact b4 k z y e)
  exact r3
/-- on with the next word -/
theorem w1_q (m : mvC σ τ) (r : RelC τ φ (bm st c')) (g8 : gI τ 71 8 = ((P + L.length : Nat) : Int)) (g9 : gI τ 71 9 = 0) (nx : st y.toNat = ((P + L.length : Nat) : Int)) : stq1 st σ τ φ c 0 (goT c' y) :=
  ⟨m, Or.inl ⟨rfl, RelC_g r, g8.trans nx.symm, g9⟩⟩
/-- numbers -/
theorem w1_A (h : RelC σ φ (bm st c)) (W : wdC σ s K N st P (aluQ w)) (l47 : fL w = 4 ∨ fL w = 7) (ho : okAlu w) (nx : st (cP c + 1).toNat = ((P + (aluQ w).length : Nat) : Int)) (e : alT (cP c, cN c, cR c, cS c, cB c, RT (cW c)) w = some u) : ∃ τ, trs (aluQ w).length σ τ ∧ stq1 st σ τ φ (cP c, cN c, cR c, cS c, cB c, RT (cW c)) 0 (goT (wrR (cP c, cN c, cR c, cS c, cB c, RT (cW c)) (dR w) u) (cP c + 1)) := by
  have e1 : alT (bm st c) w = some u := e
  obtain ⟨ev, ku⟩ := alu_C h ho e1
  have R := aluQ_v (w := w) (g := fun r => gL σ 76 r) l47 ho
  have L0 : ¬ aluQ w = [] := by
    unfold aluQ ordQ
    repeat' split
    all_goals simp
  have lv := al_liv h.2.2.2.2.1 h.1.1.2 e1
  have d9 := dR_9 ho.1.1
  obtain ⟨τ, t, m, r, g8, g9⟩ := w1_r h W L0 R d9 ev ku lv
  exact ⟨τ, t, w1_q m r g8 g9 nx⟩
end CWRD
