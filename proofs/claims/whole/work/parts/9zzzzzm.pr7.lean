/-! ===== side by side: run ===== -/
abbrev csW (k : Nat) : Prop := k = 85 ∨ (95 ≤ k ∧ k ≤ 99) ∨ k = 106
section PR7
variable {σ τ ρ υ : MS} {W V : WR} {E : EV} {n m k s X M : Nat} {x y b v : Int} {pr pr' : Int → Int → B64} {r : TC WR} {B0 T0 : Int}
theorem tai_c {x : B64} (e : taiR W m x = some V) (h : csW k) : wg V k s = wg W k s := by
  unfold taiR at e
  split at e
  · cases e
  · split at e
    · cases e
    · have e := Option.some.inj e
      rw [← e, wg_wset, if_neg (by omega), wg_wset, if_neg (by omega)]
theorem rnT_pf {good : Int → Prop} {I : WR → Prop} (h1 : ∀ w v, kpd w v → I w → I v) (h2 : ∀ w (m : Int) x v, I w → RH.2.2.2.2.2.2.2.2.1 w m x = some v → I v ∧ good (sloW v)) (fi : ∀ v s, good s → (∀ i, i < 64 → RB.2.2.2.1 v i = false) → fin RB RH E (pr s) RT 4000 (st0 v)) (hg : ∀ s, good s → ∃ (G : Int → Prop) (m : Int), okP G (pr s) ∧ G 0 ∧ (∀ i, G i → 0 ≤ i ∧ i < m) ∧ ∀ i, 0 ≤ i → i < m → pr' s i = pr s i) : ∀ (n : Nat) (s : Int) (c r : TC WR) (k : Nat) (G : Int → Prop) (m : Int), fin RB RH E (pr s) RT k c → I (cW c) → okP G (pr s) → gdT G c → (∀ i, G i → 0 ≤ i ∧ i < m) → (∀ i, 0 ≤ i → i < m → pr' s i = pr s i) → rnT RB RH E RT pr sloW n s c = some r → rnT RB RH E RT pr' sloW n s c = some r ∧ (∀ i, i < 64 → RB.2.2.2.1 (cW r) i = false) ∧ ∀ k s, csW k → wg (cW r) k s = wg (cW c) k s := by
  intro n
  induction n with
  | zero => intro s c r k G m _ _ _ _ _ _ e; cases e
  | succ n ih =>
    intro s c r k G m f hI okp hgd hr he e
    cases k with
    | zero => exact f.elim
    | succ k =>
      obtain ⟨q, c', es, a, b⟩ := f
      obtain ⟨o1, o2, o3, o4⟩ := okp _ hgd.2.1
      have gp := hr _ hgd.2.1
      have e1 : pr' s (cP c) = pr s (cP c) := he _ gp.1 gp.2
      have es' : stp1 RB RH E (pr' s) RT c = some (q, c') := by
        rw [← es]
        show stpT RB RH E (cP c, cN c, cR c, cS c, cB c, RT (cW c)) (pr' s (cP c)) (pr' s (cP c + 1)) = stpT RB RH E (cP c, cN c, cR c, cS c, cB c, RT (cW c)) (pr s (cP c)) (pr s (cP c + 1))
        rw [e1]
        by_cases l0 : fL (pr s (cP c)) = 0
        · have g2 := hr _ (o2 l0)
          rw [he (cP c + 1) (b1_q gp.1) (b2_q g2.2)]
        · exact stpT_w l0
      unfold rnT at e ⊢
      rw [es] at e
      rw [es']
      have est : stpT RB RH E (cP c, cN c, cR c, cS c, cB c, RT (cW c)) (pr s (cP c)) (pr s (cP c + 1)) = some (q, c') := es
      have qq := stpT_R kpd_all est
      have hIR : I (RT (cW c)) := h1 _ _ (show kpd (cW c) (RT (cW c)) from fun k s _ => rfl) hI
      match q, a, b, qq, est with
      | 0, a, b, qq, est =>
        have e : rnT RB RH E RT pr sloW n s c' = some r := e
        have z := (qq.resolve_left (fun z => absurd z.1 (by decide))).2
        have gd1 : gdT G (cP c, cN c, cR c, cS c, cB c, RT (cW c)) := hgd
        obtain ⟨y1, y2, y3⟩ := ih s c' r k G m (a rfl) (h1 _ _ z (show I (cW (cP c, cN c, cR c, cS c, cB c, RT (cW c))) from hIR)) okp (stp_G okp gd1 est) hr he e
        exact ⟨y1, y2, fun k s hk => (y3 k s hk).trans (z k s (by omega))⟩
      | 1, a, b, qq, est =>
        have e : some c' = some r := e
        have z := (qq.resolve_left (fun z => absurd z.1 (by decide))).2
        cases e
        exact ⟨rfl, (b (by decide)).2.2, fun k s hk => z k s (by omega)⟩
      | q + 2, a, b, qq, est =>
        have e : rnT RB RH E RT pr sloW n (sloW (cW c')) (st0 (cW c')) = some r := e
        have eb := b (by omega)
        obtain ⟨mm, x, hx⟩ : ∃ m x, RH.2.2.2.2.2.2.2.2.1 (RT (cW c)) m x = some (cW c') := by
          rcases qq with q | q
          · exact q.2
          · exfalso
            have := eb.1
            omega
        obtain ⟨i2, g2⟩ := h2 _ mm x _ hIR hx
        obtain ⟨G', m', a1, a2, a3, a4⟩ := hg _ g2
        obtain ⟨y1, y2, y3⟩ := ih (sloW (cW c')) (st0 (cW c')) r 4000 G' m' (fi _ _ g2 eb.2.2) i2 a1 ⟨Nat.le_refl 1, a2, fun f f1 f2 => absurd f2 (Nat.not_lt.mpr f1)⟩ a3 a4 e
        exact ⟨y1, y2, fun k s hk => (y3 k s hk).trans (show wg (cW c') k s = wg (cW c) k s from tai_c (W := RT (cW c)) (V := cW c') (show taiR (RT (cW c)) mm.toNat x = some (cW c') from hx) hk)⟩
/-- a run, its words told by the reference or by the class -/
theorem run_all {s0 : Nat} (hE : okE E) (hI : invW W) (w8 : K8 W) (hs : s0 < 8) (h85 : ¬ wg W 85 s0 = 0) (tk : ∀ s : Nat, s < 8 → ¬ wg W 85 s = 0 → ∃ n : Nat, tkn E (fun j => pr (s : Int) (j : Int)) n ∧ ∀ j : Nat, j < n → pr' (s : Int) (j : Int) = pr (s : Int) (j : Int)) : ∃ r, rnT RB RH E RT pr sloW 36000 (s0 : Int) (st0 (bgW W (s0 : Int))) = some r ∧ rnT RB RH E RT pr' sloW 36000 (s0 : Int) (st0 (bgW W (s0 : Int))) = some r ∧ (∀ i, i < 64 → RB.2.2.2.1 (cW r) i = false) ∧ (∀ k s, csW k → wg (cW r) k s = wg W k s) ∧ K8 (cW r) := by
  have bg : ∀ k t, csW k → wg (bgW W (s0 : Int)) k t = wg W k t := fun k t z => by
    show (if k = 152 ∧ t < 64 then 0 else if k = 80 ∧ t = 110 then 0 else if k = 80 ∧ t = 122 then (s0 : Int) else W.1 k t) = _
    rw [if_neg (by omega), if_neg (by omega), if_neg (by omega)]
  have h8 : sl8 (bgW W (s0 : Int)) := ⟨by rw [show wg (bgW W (s0 : Int)) 80 110 = 0 from rfl]; decide, fun s => by rw [bg _ _ (by omega)]; exact w8.2.2 s⟩
  have nh : ∀ i, i < 64 → RB.2.2.2.1 (bgW W (s0 : Int)) i = false := fun i hi => by
    have e : wg (bgW W (s0 : Int)) 152 i = 0 := if_pos ⟨rfl, hi⟩
    show decide (¬ wg (bgW W (s0 : Int)) 152 i = 0) = false
    rw [e]
    rfl
  have ps : ∀ s : Int, 0 ≤ s → s = ((s.toNat : Nat) : Int) := fun s h => by omega
  have hw : ∀ s : Int, (0 ≤ s ∧ s < 8) ∧ ¬ wg W 85 s.toNat = 0 → ∃ (n : Nat) (S : Nat → Bool) (f : Nat) (w : WK), (okP (GP n S) (pr s) ∧ GP n S 0) ∧ wlkK E (pr s) (fun j => joiP (fun j => pr s (j : Int)) n S j) f true (begK S0J) = some (0, w) ∧ ∀ j : Nat, j < n → pr' s (j : Int) = pr s (j : Int) := fun s hs => by
    obtain ⟨n, ⟨n0, S, f, w, t1, t2, t3⟩, t4⟩ := tk s.toNat (by omega) hs.2
    rw [← ps s hs.1.1] at t1 t2 t3 t4
    obtain ⟨o1, o2⟩ := okp_n n0 t1 t2
    have G0 : ∀ i, GP n S i → (fun i : Int => pr s ((i.toNat : Nat) : Int)) i = pr s i ∧ (fL ((fun i : Int => pr s ((i.toNat : Nat) : Int)) i) = 0 → (fun i : Int => pr s ((i.toNat : Nat) : Int)) (i + 1) = pr s (i + 1)) := fun i gi => by
      have := gi.1
      exact ⟨by show pr s ((i.toNat : Nat) : Int) = pr s i; rw [← ps i (by omega)], fun _ => by show pr s (((i + 1).toNat : Nat) : Int) = pr s (i + 1); rw [← ps (i + 1) (by omega)]⟩
    have o1' : okP (GP n S) (pr s) := fun i gi => by
      obtain ⟨u1, u2, u3, u4⟩ := o1 i gi
      have := gi.1
      have e1 : pr s ((i.toNat : Nat) : Int) = pr s i := by rw [← ps i (by omega)]
      have e2 : pr s (((i + 1).toNat : Nat) : Int) = pr s (i + 1) := by rw [← ps (i + 1) (by omega)]
      dsimp only at u1 u2 u3 u4
      rw [e1] at u1 u2 u3 u4
      rw [e2] at u1
      exact ⟨u1, u2, u3, u4⟩
    exact ⟨n, S, f, w, ⟨o1', o2⟩, wlk_e hE o1 G0 f true _ w _ 0 (beg_n n0 t1 t2) t3, t4⟩
  obtain ⟨r, e⟩ := run_ends (W0 := W) (W := bgW W (s0 : Int)) (pr := pr) (s0 := (s0 : Int)) hE h8 (fun s => bg _ _ (by omega)) ⟨by omega, by rw [Int.toNat_natCast]; exact h85⟩ nh (fun s hs => by
    obtain ⟨n, S, f, w, ⟨a1, a2⟩, a3, _⟩ := hw s hs
    exact ⟨_, _, f, w, a1, a2, a3⟩)
  have fi : ∀ (v : WR) (s : Int), ((0 ≤ s ∧ s < 8) ∧ ¬ wg W 85 s.toNat = 0) → (∀ i, i < 64 → RB.2.2.2.1 v i = false) → fin RB RH E (pr s) RT 4000 (st0 v) := fun v s hs hv => by
    obtain ⟨n, S, f, w, ⟨a1, a2⟩, a3, _⟩ := hw s hs
    exact walk_fin RB_ok RH_ok hE RT_ok a1 ⟨S0_ok, S0_m, fun f a b => (by have b : f < 1 := b; omega), a2⟩ a3 (st0_g v hv)
  have g0 : (0 ≤ (s0 : Int) ∧ (s0 : Int) < 8) ∧ ¬ wg W 85 (s0 : Int).toNat = 0 := ⟨by omega, by rw [Int.toNat_natCast]; exact h85⟩
  have hg : ∀ s : Int, ((0 ≤ s ∧ s < 8) ∧ ¬ wg W 85 s.toNat = 0) → ∃ (G : Int → Prop) (m : Int), okP G (pr s) ∧ G 0 ∧ (∀ i, G i → 0 ≤ i ∧ i < m) ∧ ∀ i, 0 ≤ i → i < m → pr' s i = pr s i := fun s hs => by
    obtain ⟨n, S, f, w, ⟨a1, a2⟩, a3, a4⟩ := hw s hs
    refine ⟨GP n S, (n : Int), a1, a2, fun i gi => gi.1, fun i i0 i1 => ?_⟩
    have := a4 i.toNat (by omega)
    rw [← ps i i0] at this
    exact this
  obtain ⟨G, m, a1, a2, a3, a4⟩ := hg _ g0
  obtain ⟨y1, y2, y3⟩ := rnT_pf (E := E) (pr := pr) (pr' := pr') (good := fun s => (0 ≤ s ∧ s < 8) ∧ ¬ wg W 85 s.toNat = 0) (I := fun w => sl8 w ∧ ∀ s, wg w 85 s = wg W 85 s) (fun w v k h => by
    refine ⟨⟨by rw [k 80 110 (by omega)]; exact h.1.1, fun s => by rw [k 106 s (by omega)]; exact h.1.2 s⟩, fun s => by rw [k 85 s (by omega)]; exact h.2 s⟩) (fun w m x v h e => by
    have e : taiR w m.toNat x = some v := e
    obtain ⟨b1, b2, b3, b4⟩ := tai_s h.1 e
    refine ⟨⟨b2, fun s => (b4 s).trans (h.2 s)⟩, b3.1, ?_⟩
    rw [← h.2, ← b4]
    exact b3.2) fi hg 36000 (s0 : Int) (st0 (bgW W (s0 : Int))) r 4000 G m (fi _ _ g0 nh) ⟨h8, fun s => bg _ _ (by omega)⟩ a1 ⟨Nat.le_refl 1, a2, fun f f1 f2 => absurd f2 (Nat.not_lt.mpr f1)⟩ a3 a4 e
  exact ⟨r, e, y1, y2, fun k s hk => (y3 k s hk).trans (bg k s hk), rn_k8 36000 _ (st0 (bgW W (s0 : Int))) r (k8_bg (s := (s0 : Int)) w8) e⟩
end PR7
