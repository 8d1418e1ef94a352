/-! ===== the class's runs, way 1, whole ===== -/
/-- programs that were taken are well formed -/
def taF (σ : MS) : Prop := ∀ s : Nat, s < 8 → ¬ gI σ 16 s = 0 → (0 ≤ gI σ 15 s ∧ gI σ 15 s ≤ 200) ∧ ∃ S : Nat → Bool, frmP (fun j => gL σ (7 + s) j) (gI σ 15 s).toNat ((gI σ 15 s).toNat + 1) 0 (fun _ => false) = (none, S) ∧ okP (GP (gI σ 15 s).toNat S) (prC σ (s : Int)) ∧ GP (gI σ 15 s).toNat S 0
section CRN2
variable {B0 T0 : Int} {σ τ ρ υ ω : MS} {w w2 X Y v x3 : B64} {m f i j s t N K P Q d e x x' o b p z : Nat} {x1 y : Int} {c c' c1 r : TC WR} {φ ψ : Nat → Nat} {st : Nat → Int} {L : List Q4} {u : SV} {E : EV} {S : Nat → Bool} {V : WR}
theorem RelC_b (h : RelC σ φ c) (n1 : cN c = 1) : RelC σ φ (bm st c) := by
  obtain ⟨a, b, d, _, l, wl⟩ := h
  exact ⟨a, b, d, fun f f1 f2 => by
    have f2 : f < cN c := f2
    omega, l, wl⟩
theorem trs_b : ∀ (k : Nat) {σ : MS}, trs k σ τ → bOk σ → bOk τ := by
  intro k
  induction k with
  | zero =>
    intro σ t h
    have t : σ = τ := t
    rw [← t]
    exact h
  | succ k ih =>
    intro σ t h
    obtain ⟨_, ρ, t1, t2⟩ := t
    exact ih t2 (MM_b h t1)
/-- a slot is entered -/
theorem ent_1 (tf : taF σ) (sl : slC σ) (m : mvT σ τ) (U : tuC τ) (D : cdD B0 T0 τ) (hb : bOk τ) (rel : RelC τ ψ (st0 V)) (hI : invW V) (h9 : gI τ 71 9 = 0) (h8 : gI τ 71 8 = 0) (h7 : gI τ 71 7 = (s : Int)) (s8 : s < 8) (good : ¬ gI σ 16 s = 0) (nc : nC τ < 1000000) (hj : j < 1000000) : ∃ (ρ : MS) (K : Nat) (st : Nat → Int), RR (lkB tb179) (B179_53, [some (mR (some 71)), some (mI x1), some (mI 1), some (mL x3), none, some (mI (j : Int))], [], τ) = RR (lkB tb179) (B179_53, [some (mR (some 71)), some (mI x1), some (mI 1), some (mL x3), none, some (mI (j : Int))], [], ρ) ∧ mvT σ ρ ∧ tuC ρ ∧ cdD B0 T0 ρ ∧ bOk ρ ∧ RelC ρ ψ (bm st (st0 V)) ∧ gI ρ 71 9 = 0 ∧ gI ρ 71 8 = st 0 ∧ gI ρ 71 7 = (s : Int) ∧ ¬ gI ρ 17 s = 0 ∧ trnX ρ s (fun j => gL σ (7 + s) j) (gI σ 15 s).toNat K st ∧ nC ρ ≤ nC τ + 1 := by
  obtain ⟨⟨n0, n200⟩, S, fr, okp, g0⟩ := tf s s8 good
  have g16 : gI τ 16 s = gI σ 16 s := m.1 _ _ (by omega) (by omega) (by omega)
  have g15 : gI τ 15 s = gI σ 15 s := m.1 _ _ (by omega) (by omega) (by omega)
  have gw : (fun j => gL τ (7 + s) j) = (fun j => gL σ (7 + s) j) := funext fun j => m.2.1 _ _ (by omega) (by omega) (by omega)
  have np : ¬ (gI σ 15 s).toNat ≤ 0 := by
    have := g0.1
    omega
  have z0 : ∀ {ρ : MS} {K : Nat} {st : Nat → Int}, trnX ρ s (fun j => gL σ (7 + s) j) (gI σ 15 s).toNat K st → st 0 = 0 := fun {ρ K st} h => (h.2.2.2.2.2 (0, 0) (lay_h np)).1
  by_cases h17 : gI τ 17 s = 0
  · have r6 : gR τ 6 s = some (7 + s) := (m.2.2.1 6 s (by omega) (by omega) (by omega)).trans (sl s s8)
    have e15 : gI τ 15 s = (((gI σ 15 s).toNat : Nat) : Int) := by omega
    obtain ⟨ρ, t, u1, u2, u3⟩ := T111 (n := (gI σ 15 s).toNat) s8 (by omega) fr h17 (fun K h => D.1 s K s8 h) D.2.2.1 nc r6 e15 (fun j => congrFun gw j)
    have tk : trnC ρ s (fun j => gL τ (7 + s) j) (gI τ 15 s).toNat := by
      rw [gw, g15]
      exact u1
    obtain ⟨D', U'⟩ := tur_k D u3 s8 U tk
    have mT := mvT_u D u3 s8
    have u17 : ¬ gI ρ 17 s = 0 := by
      rw [u2]
      decide
    have mm := u3
    obtain ⟨Kx, _, k2, m1, _, _, _, m5, m6, _⟩ := mm
    have K3 : 153 ≤ Kx := by
      rcases k2 with e | e
      · exact (D.1 s Kx s8 e).2.1
      · have := D.2.2
        omega
    have g71 : ∀ z, gI ρ 71 z = gI τ 71 z := fun z => m1 71 z (by omega) (by omega) (by omega) (by omega) (by omega)
    obtain ⟨K, st, q⟩ := u1
    refine ⟨ρ, K, st, turn_1 s8 h7 ((g71 7).trans h7) h9 ((g71 9).trans h9) u17 t hj, mvT_t m mT, U', D', MM_b hb t, RelC_b (RelC_T rel hI D u3 s8) rfl, (g71 9).trans h9, ?_, (g71 7).trans h7, u17, q, m6.1⟩
    rw [g71, h8, z0 q]
  · have := U s s8 h17
    rw [gw, g15] at this
    obtain ⟨K, st, q⟩ := this
    exact ⟨τ, K, st, rfl, m, U, D, hb, RelC_b rel rfl, h9, by rw [h8, z0 q], h7, h17, q, Nat.le_succ _⟩
theorem L179p (Ce : CEO σ E) (hE : okE E) (hR : okRow E) (tf : taF σ) (sl : slC σ) : ∀ (n : Nat) (s : Nat) (c r : TC WR) (ρ : MS) (φ : Nat → Nat) (j K : Nat) (st : Nat → Int) (S : Nat → Bool), mvT σ ρ → RelC ρ φ (bm st c) → bOk ρ → invW (cW c) → tuC ρ → cdD B0 T0 ρ → gI ρ 71 9 = 0 → gI ρ 71 8 = st (cP c).toNat → gI ρ 71 7 = (s : Int) → s < 8 → ¬ gI ρ 17 s = 0 → (0 ≤ gI σ 15 s ∧ gI σ 15 s ≤ 200) → trnX ρ s (fun j => gL σ (7 + s) j) (gI σ 15 s).toNat K st → frmP (fun j => gL σ (7 + s) j) (gI σ 15 s).toNat ((gI σ 15 s).toNat + 1) 0 (fun _ => false) = (none, S) → okP (GP (gI σ 15 s).toNat S) (prC σ (s : Int)) → gdT (GP (gI σ 15 s).toNat S) c → j + 6 * n < 1000000 → nC ρ + n < 1000000 → rnT RB RH E RT (prC σ) sloW n (s : Int) c = some r →
    ∃ (τ : MS) (j' : Nat) (ψ : Nat → Nat) (st' : Nat → Int), RR (lkB tb179) (B179_53, [some (mR (some 71)), some (mI x1), some (mI 1), some (mL x3), none, some (mI (j : Int))], [], ρ) = RR (lkB tb179) (B179_53, [some (mR (some 71)), some (mI x1), some (mI 1), some (mL x3), none, some (mI (j' : Int))], [], τ) ∧ RelC τ ψ (bm st' r) ∧ bOk τ ∧ invW (cW r) ∧ mvT σ τ ∧ tuC τ ∧ cdD B0 T0 τ ∧ gI τ 71 9 = 1 ∧ gL τ 76 0 = (rdR r 0).2 ∧ j' < 1000000 := by
  intro n
  induction n with
  | zero => intro s c r ρ φ j K st S _ _ _ _ _ _ _ _ _ _ _ _ _ _ _ _ _ _ e; cases e
  | succ n ih =>
    intro s c r ρ φ j K st S mv h hb hI U D h9 h8 h7 s8 h17 n15 X fr okp hg hj hn e
    obtain ⟨n0, hn0⟩ : ∃ n0, n0 = (gI σ 15 s).toNat := ⟨_, rfl⟩
    rw [← hn0] at X fr okp hg
    have n200 : n0 ≤ 200 := by omega
    unfold rnT at e
    have gp := hg.2.1
    obtain ⟨⟨p0, p1⟩, pS⟩ := gp
    obtain ⟨p, hp⟩ : ∃ p : Nat, cP c = (p : Int) := ⟨(cP c).toNat, by omega⟩
    have hpn : (cP c).toNat = p := by omega
    rw [hpn] at pS h8
    have pn : p < n0 := by omega
    obtain ⟨o1, o2, o3, o4⟩ := okp _ hg.2.1
    obtain ⟨x1', x2', x3', x4', x5', x6'⟩ := X
    have f1 : n0 ≤ 0 + (n0 + 1) := by omega
    have lr := lay_r (n0 + 1) 0 0 (fun _ => false) fr (Nat.zero_le _) f1
    obtain ⟨P, hPl⟩ := (lay_S (n0 + 1) 0 0 (fun _ => false) fr p pS).resolve_left (fun z => by cases z)
    obtain ⟨q1, q2⟩ := x6' _ hPl
    have q1 : st p = (P : Int) := q1
    have q2 : codQ ρ K st P (wQ (fun j => gL σ (7 + s) j) n0 p P) := q2
    obtain ⟨_, _, _, lN, lz⟩ := lr.2.2 _ hPl
    have lN : P + (wQ (fun j => gL σ (7 + s) j) n0 p P).length ≤ layN (fun j => gL σ (7 + s) j) n0 (n0 + 1) 0 0 := lN
    have lz : ¬ spn (fun j => gL σ (7 + s) j) n0 p = 0 := lz
    have si := (spn_in lz pn).2
    have W : wdC ρ s K (layN (fun j => gL σ (7 + s) j) n0 (n0 + 1) 0 0) st P (wQ (fun j => gL σ (7 + s) j) n0 p P) := ⟨⟨⟨⟨h7, s8⟩, x1', x2', x4', by omega⟩, s8, x3'⟩, h17, h9, h8.trans q1, lN, cod_at wQ_k q2⟩
    have C1 : CEO ρ E := fun m hm => by
      rw [mv.1 31 m (by omega) (by omega) (by omega), mv.1 32 m (by omega) (by omega) (by omega), mv.1 29 m (by omega) (by omega) (by omega), mv.1 30 m (by omega) (by omega) (by omega)]
      exact Ce m hm
    have ew : gL σ (7 + s) p = prC σ (s : Int) (cP c) := by
      unfold prC
      rw [Int.toNat_natCast, hpn]
    have ew2 : gL σ (7 + s) (p + 1) = prC σ (s : Int) (cP c + 1) := by
      unfold prC
      rw [Int.toNat_natCast, show (cP c + 1).toNat = p + 1 by omega]
    have es : stp1 RB RH E (prC σ (s : Int)) RT c = stpT RB RH E (cP c, cN c, cR c, cS c, cB c, RT (cW c)) (prC σ (s : Int) (cP c)) (prC σ (s : Int) (cP c + 1)) := rfl
    rw [es] at e
    cases est : stpT RB RH E (cP c, cN c, cR c, cS c, cB c, RT (cW c)) (prC σ (s : Int) (cP c)) (prC σ (s : Int) (cP c + 1)) with
    | none =>
      rw [est] at e
      cases e
    | some q =>
      obtain ⟨k, c'⟩ := q
      rw [est] at e
      have i2 := stp_i (c := (cP c, cN c, cR c, cS c, cB c, RT (cW c))) (inv_ch hI) est
      have gd0 : k = 0 → gdT (GP n0 S) c' := fun k0 => by
        have gd1 : gdT (GP n0 S) (cP c, cN c, cR c, cS c, cB c, RT (cW c)) := hg
        exact stp_G okp gd1 (by rw [← k0]; exact est)
      have si' : spn (fun j => gL σ (7 + s) j) n0 p = 1 ∧ okPl (prC σ (s : Int) (cP c)) ∨ spn (fun j => gL σ (7 + s) j) n0 p = 2 ∧ p + 1 < n0 ∧ okPr (prC σ (s : Int) (cP c)) (prC σ (s : Int) (cP c + 1)) := by
        rw [← ew, ← ew2]
        exact si
      have nxt : ∀ d : Nat, spn (fun j => gL σ (7 + s) j) n0 p = d → GP n0 S (cP c + (d : Int)) → st (p + spn (fun j => gL σ (7 + s) j) n0 p) = ((P + (wQ (fun j => gL σ (7 + s) j) n0 p P).length : Nat) : Int) := fun d hd g => by
        have g1 := g.1
        have hm := lay_n (n0 + 1) 0 0 (fun _ => false) fr f1 p P hPl (by rw [hd]; omega)
        exact (x6' _ hm).1
      obtain ⟨k', τ, ψ, k6, t, q⟩ := w1_all (w := prC σ (s : Int) (cP c)) (w2 := prC σ (s : Int) (cP c + 1)) (pw := fun j => gL σ (7 + s) j) (n := n0) (p := p) h hb hI C1 hE hR W hp ew ew2 si' (fun a1 a2 a3 => by
        have := (o4 a1 a2 a3).1
        rw [← hp]
        exact this) (fun nf => by
        rcases si' with ⟨s1, opl⟩ | ⟨s2, _, opr⟩
        · have l0 : ¬ fL (prC σ (s : Int) (cP c)) = 0 := fun y => by
            unfold okPl at opl
            rw [if_pos y] at opl
            exact opl
          exact nxt 1 s1 (o3 l0 (fun z => nf (Or.inl z)) (fun z => nf (Or.inr (Or.inl z))) (fun z => nf (Or.inr (Or.inr z))))
        · have l0 : fL (prC σ (s : Int) (cP c)) = 0 := by
            have z1 : fL (prC σ (s : Int) (cP c)) = fOp (prC σ (s : Int) (cP c)) % 8 := rfl
            have z2 := opr.1.1
            omega
          exact nxt 2 s2 (o2 l0)) est
      have mτ := q.1
      have turn := trs_179 (x1 := x1) (x3 := x3) k' j ρ t (by omega)
      have bt := trs_b k' t hb
      have mT := mvT_t mv (mvT_m mτ)
      have Uτ := tuC_m mτ U
      have Dτ := cdD_m mτ D
      have nτ := (mv_R mτ).2.2
      rcases q.2 with ⟨rfl, q1', q2', q3'⟩ | ⟨rfl, q1', q2', q3', q4'⟩ | ⟨rfl, q1', q2', q3', q4', q5'⟩
      · have e : rnT RB RH E RT (prC σ) sloW n (s : Int) c' = some r := e
        have t7 : gI τ 71 7 = gI ρ 71 7 := by
          have w1 := q1'.2.2.2.2.2.2.2.2.1.2.2.2.1
          have kp := ((stpT_R kpc_all est).resolve_left (fun z => by cases z.1)).2
          have w2 := h.2.2.2.2.2.2.2.2.1.2.2.2.1
          rw [← w1, ← w2]
          exact kp.2 80 122 (by omega)
        obtain ⟨τ', j', ψ', st', a1, a2⟩ := ih s c' r τ ψ (j + k') K st S mT q1' bt i2 Uτ Dτ q3' q2' (t7.trans h7) s8 (by rw [mτ.1 17 s (by omega)]; exact h17) n15 (by rw [← hn0]; exact trnX_m mτ ⟨x1', x2', x3', x4', x5', x6'⟩) (by rw [← hn0]; exact fr) (by rw [← hn0]; exact okp) (by rw [← hn0]; exact gd0 rfl) (by omega) (by omega) e
        exact ⟨τ', j', ψ', st', turn.trans a1, a2⟩
      · have e : some c' = some r := e
        cases e
        rw [q2'] at i2 ⊢
        exact ⟨τ, j + k', ψ, st, turn, q1', bt, i2, mT, Uτ, Dτ, q3', q4', by omega⟩
      · have e : rnT RB RH E RT (prC σ) sloW n (sloW (cW c')) (st0 (cW c')) = some r := e
        have w7 : gI τ 71 7 = sloW (cW c') := q2'.2.2.2.2.2.2.2.2.1.2.2.2.1.symm
        obtain ⟨s', hs'⟩ : ∃ s' : Nat, sloW (cW c') = (s' : Int) := ⟨(sloW (cW c')).toNat, by have z : 0 ≤ sloW (cW c') := q5'.1.1; omega⟩
        have s8' : s' < 8 := by have z : sloW (cW c') < 8 := q5'.1.2; omega
        have hsw : (wg (cW c') 80 122).toNat = s' := by
          show (sloW (cW c')).toNat = s'
          omega
        have good : ¬ gI σ 16 s' = 0 := by
          have z1 := q2'.2.2.2.2.2.2.2.2.2.1 s' s8'
          have z2 := q5'.2.1
          rw [hsw] at z2
          rw [mT.1 16 s' (by omega) (by omega) (by omega)] at z1
          have z1 : wg (cW c') 85 s' = gI σ 16 s' := z1
          rw [← z1]
          exact z2
        rw [hs'] at e w7
        obtain ⟨n15', S', fr', okp', g0'⟩ := tf s' s8' good
        obtain ⟨ρ', K', st', b1, b2, b3, b4, b5, b6, b7, b8, b9, b10, b11, b12⟩ := ent_1 (x1 := x1) (x3 := x3) (j := j + k') tf sl mT Uτ Dτ bt q2' i2 q4' q3' w7 s8' good (by omega) (by omega)
        obtain ⟨τ', j', ψ', st2, a1, a2⟩ := ih s' (st0 (cW c')) r ρ' ψ (j + k') K' st' S' b2 b6 b5 i2 b3 b4 b7 b8 b9 s8' b10 n15' b11 fr' okp' ⟨Nat.le_refl 1, g0', fun f f1 f2 => by
          have f2 : f < 1 := f2
          omega⟩ (by omega) (by omega) e
        exact ⟨τ', j', ψ', st2, turn.trans (b1.trans a1), a2⟩
end CRN2
