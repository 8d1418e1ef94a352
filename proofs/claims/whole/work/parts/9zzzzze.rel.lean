/-! ===== class and reference side by side: what holds between calls ===== -/
/-- the maps that a judge knows -/
def evW (W : WR) : EV := (fun m => if wg W 95 m = 0 then -1 else wg W 96 m, wg W 97, wg W 98)
def rTp (σ : MS) : Prop := ∃ n : Nat, n ≤ 4000 ∧ gI σ 0 1 = (n : Int) ∧ gI σ 80 1 = (n : Int) ∧ ∀ j, gI σ 1 j = gI σ 81 j
def rOt (σ : MS) : Prop := ∃ L : List Int, L.length ≤ 8192 ∧ otC σ L ∧ otR σ L
def rSl (σ : MS) : Prop := slC σ ∧ ∀ x : Nat, x < 8 → gI σ 15 x = gI σ 84 x ∧ (0 ≤ gI σ 84 x ∧ gI σ 84 x ≤ 200) ∧ ∀ i : Nat, (i : Int) < gI σ 84 x → gL σ (7 + x) i = gL σ 83 (200 * x + i)
def rTd (σ : MS) : Prop := ∀ x : Nat, x ≤ 5 → gI σ 51 x = if gI σ 80 95 = 0 then (if x = 0 then -1 else 0) else gI σ 138 x
def rKn (σ : MS) : Prop := ∃ X, kI X ∧ KNc σ X ∧ KN σ X
def rWd (σ : MS) (W : WR) : Prop := wldR σ W ∧ wldO σ W ∧ invW W ∧ W5 W ∧ MP W ∧ K8 W
/-- a slot whose program was taken: the judge took its words -/
def tkn (E : EV) (p : Nat → B64) (n : Nat) : Prop := 0 < n ∧ ∃ (S : Nat → Bool) (f : Nat) (w : WK), frmP p n (n + 1) 0 (fun _ => false) = (none, S) ∧ plcP p n S (n + 1) 0 = none ∧ wlkK E (fun i => p i.toNat) (fun j => joiP p n S j) f true (begK S0J) = some (0, w)
def rTk (σ : MS) (E : EV) : Prop := (∀ m : Nat, m < 8 → E.1 m < 0 → E.2.2 m ≤ 0) ∧ ∀ x : Nat, x < 8 → ¬ gI σ 85 x = 0 → tkn E (fun j => gL σ 83 (200 * x + j)) (gI σ 84 x).toNat
def rRs (σ : MS) : Prop := gL σ 71 14 = gL σ 80 109 ∧ gI σ 80 54 = 0
def rIn (σ : MS) : Prop := bOk σ ∧ tuC σ ∧ (∃ B0 T0, cdD B0 T0 σ) ∧ POOL σ ∧ PCN σ (153 + ccn σ) ∧ (∃ hc, gR σ 39 14 = some hc) ∧ (∃ sc, gR σ 39 15 = some sc) ∧ ∀ s K, s < 8 → gR σ 73 s = some K → oth σ K
def REL (σ : MS) : Prop := (rTp σ ∧ rOt σ ∧ rSl σ ∧ rTd σ ∧ rKn σ) ∧ (∃ W, rWd σ W ∧ rTk σ (evW W)) ∧ rRs σ ∧ rIn σ
/-- what a pair of calls has to do -/
def pI (c r : Nat) (as : List MV) (σ : MS) : Prop := ∃ (v : Int) (τ υ : MS), MM c (mR (some 0) :: as) σ = some (some (mI v), τ) ∧ MM r (mR (some 80) :: as) τ = some (some (mI v), υ) ∧ REL υ
def pL (c r : Nat) (as : List MV) (σ : MS) : Prop := ∃ (v : B64) (τ υ : MS), MM c (mR (some 0) :: as) σ = some (some (mL v), τ) ∧ MM r (mR (some 80) :: as) τ = some (some (mL v), υ) ∧ REL υ
def pV (c r : Nat) (as : List MV) (σ : MS) : Prop := ∃ (τ υ : MS), MM c (mR (some 0) :: as) σ = some (none, τ) ∧ MM r (mR (some 80) :: as) τ = some (none, υ) ∧ REL υ
section REL
variable {σ τ ρ υ : MS} {W V : WR} {E : EV} {x y n m k s : Nat}
theorem ev_C (h : wldO σ W) (p : MP W) : CEO σ (evW W) := fun m hm => by
  obtain ⟨k1, k2, k3, k4, _⟩ := (h.1.1 m hm).1
  have q := p m hm
  refine ⟨k3.symm, k4.symm, fun z => ?_, fun z => ?_⟩
  · show (if wg W 95 m = 0 then -1 else wg W 96 m) < 0
    rw [if_pos (k1.trans z)]
    decide
  · have z' : ¬ wg W 95 m = 0 := fun y => z (k1.symm.trans y)
    show (if wg W 95 m = 0 then -1 else wg W 96 m) = gI σ 30 m ∧ 0 ≤ (if wg W 95 m = 0 then -1 else wg W 96 m)
    rw [if_neg z']
    exact ⟨k2, (q.1 z').1.1⟩
theorem ev_R (h : wldR σ W) (p : MP W) : EO σ (evW W) := fun m hm => by
  have q := p m hm
  have k1 : wg W 95 m = gI σ 95 m := h.1 95 m (by omega)
  have k2 : wg W 96 m = gI σ 96 m := h.1 96 m (by omega)
  refine ⟨(h.1 97 m (by omega)).symm, (h.1 98 m (by omega)).symm, fun z => ?_, fun z => ?_⟩
  · show (if wg W 95 m = 0 then -1 else wg W 96 m) < 0
    rw [if_pos (k1.trans z)]
    decide
  · have z' : ¬ wg W 95 m = 0 := fun y => z (k1.symm.trans y)
    show (if wg W 95 m = 0 then -1 else wg W 96 m) = gI σ 96 m ∧ 0 ≤ (if wg W 95 m = 0 then -1 else wg W 96 m)
    rw [if_neg z']
    exact ⟨k2, (q.1 z').1.1⟩
theorem ev_1 (z : 0 ≤ (evW W).1 m) : ¬ wg W 95 m = 0 ∧ (evW W).1 m = wg W 96 m := by
  have z : 0 ≤ (if wg W 95 m = 0 then -1 else wg W 96 m) := z
  show ¬ wg W 95 m = 0 ∧ (if wg W 95 m = 0 then -1 else wg W 96 m) = wg W 96 m
  by_cases c : wg W 95 m = 0
  · rw [if_pos c] at z
    exact absurd z (by decide)
  · rw [if_neg c]
    exact ⟨c, rfl⟩
theorem ev_ok (p : MP W) : okE (evW W) := fun m hm z => by
  obtain ⟨c, e⟩ := ev_1 z
  have q := (p m hm).1 c
  rw [e]
  exact ⟨q.1.2, q.2.2.1⟩
theorem ev_w (p : MP W) : okRow (evW W) := fun m hm z => by
  obtain ⟨c, e⟩ := ev_1 (W := W) (m := m) (by omega)
  exact ((p m hm).1 c).2.2.2 (e.symm.trans z)
theorem ev_EC (h : wldR σ W) : EC σ (evW W) := fun m _ => ⟨(h.1 97 m (by omega)).symm, (h.1 98 m (by omega)).symm⟩
/-! what is kept -/
theorem tp_k (h : ∀ k s, (k = 0 ∧ s = 1) ∨ (k = 80 ∧ s = 1) ∨ k = 1 ∨ k = 81 → gI τ k s = gI σ k s) (r : rTp σ) : rTp τ := by
  obtain ⟨n, h1, h2, h3, h4⟩ := r
  exact ⟨n, h1, (h _ _ (by omega)).trans h2, (h _ _ (by omega)).trans h3, fun j => by rw [h 1 j (by omega), h 81 j (by omega)]; exact h4 j⟩
theorem otC_k {L : List Int} (h : ∀ k s, (k = 2 ∧ s = 1) ∨ k = 3 → gI τ k s = gI σ k s) (r : otC σ L) : otC τ L := ⟨(h _ _ (by omega)).trans r.1, fun i hi => (h _ _ (by omega)).trans (r.2 i hi)⟩
theorem otR_k {L : List Int} (h : ∀ k s, (k = 80 ∧ s = 3) ∨ k = 82 → gI τ k s = gI σ k s) (r : otR σ L) : otR τ L := ⟨(h _ _ (by omega)).trans r.1, fun i hi => (h _ _ (by omega)).trans (r.2 i hi)⟩
theorem ot_k (h : ∀ k s, (k = 2 ∧ s = 1) ∨ k = 3 ∨ (k = 80 ∧ s = 3) ∨ k = 82 → gI τ k s = gI σ k s) (r : rOt σ) : rOt τ := by
  obtain ⟨L, h1, h2, h3⟩ := r
  exact ⟨L, h1, otC_k (fun k s z => h k s (by omega)) h2, otR_k (fun k s z => h k s (by omega)) h3⟩
theorem sl_k (r : ∀ s, gR τ 6 s = gR σ 6 s) (h : ∀ k s, k = 15 ∨ k = 84 → gI τ k s = gI σ k s) (l : ∀ k s, (7 ≤ k ∧ k ≤ 14) ∨ k = 83 → gL τ k s = gL σ k s) (q : rSl σ) : rSl τ := by
  obtain ⟨q1, q2⟩ := q
  refine ⟨fun s hs => (r s).trans (q1 s hs), fun x hx => ?_⟩
  obtain ⟨a1, a2, a3⟩ := q2 x hx
  rw [h 15 x (by omega), h 84 x (by omega)]
  exact ⟨a1, a2, fun i hi => by rw [l (7 + x) i (by omega), l 83 _ (by omega)]; exact a3 i hi⟩
theorem td_k (h : ∀ k s, (k = 80 ∧ s = 95) ∨ k = 51 ∨ k = 138 → gI τ k s = gI σ k s) (r : rTd σ) : rTd τ := fun x hx => by
  rw [h 51 x (by omega), h 80 95 (by omega), h 138 x (by omega)]
  exact r x hx
theorem knc_k {X : Int → Option ST} (h : ∀ s, gI τ 52 s = gI σ 52 s) (l : ∀ s, gL τ 53 s = gL σ 53 s) (c : KNc σ X) : KNc τ X := fun i hi => ⟨fun S e => ⟨(h i).trans ((c i hi).1 S e).1, fun r f hr hf => (l _).trans (((c i hi).1 S e).2 r f hr hf)⟩, fun e => (h i).trans ((c i hi).2 e)⟩
theorem kn_k' {X : Int → Option ST} (h : ∀ k s, k = 139 ∨ k = 141 → gI τ k s = gI σ k s) (l : ∀ s, gL τ 140 s = gL σ 140 s) (c : KN σ X) : KN τ X := fun i hi => ⟨fun S e => by
  obtain ⟨a1, a2⟩ := (c i hi).1 S e
  refine ⟨(h _ _ (by omega)).trans a1, fun r hr => ?_⟩
  obtain ⟨⟨b1, b2, b3, b4, b5, b6⟩, b7, b8, b9, b10⟩ := a2 r hr
  exact ⟨⟨(l _).trans b1, (l _).trans b2, (l _).trans b3, (l _).trans b4, (l _).trans b5, (l _).trans b6⟩, (h _ _ (by omega)).trans b7, (h _ _ (by omega)).trans b8, (h _ _ (by omega)).trans b9, (h _ _ (by omega)).trans b10⟩, fun e => (h _ _ (by omega)).trans ((c i hi).2 e)⟩
theorem kn_k (h : ∀ k s, k = 52 ∨ k = 139 ∨ k = 141 → gI τ k s = gI σ k s) (l : ∀ k s, k = 53 ∨ k = 140 → gL τ k s = gL σ k s) (r : rKn σ) : rKn τ := by
  obtain ⟨X, h1, h2, h3⟩ := r
  exact ⟨X, h1, knc_k (fun s => h _ _ (by omega)) (fun s => l _ _ (by omega)) h2, kn_k' (fun k s z => h _ _ (by omega)) (fun s => l _ _ (by omega)) h3⟩
theorem wdR_k (h : ∀ k s, wrT k s → gI τ k s = gI σ k s) (l : ∀ s, s = 108 ∨ s = 111 → gL τ 80 s = gL σ 80 s) (r : wldR σ W) : wldR τ W := ⟨fun k s z => (r.1 k s z).trans (h k s z).symm, r.2.1.trans (l _ (by omega)).symm, r.2.2.trans (l _ (by omega)).symm⟩
abbrev wdI (k s : Nat) : Prop := wrT k s ∨ (k = 27 ∧ (s < 256 ∨ 788 ≤ s)) ∨ k = 16 ∨ k = 79 ∨ (k = 71 ∧ (s = 10 ∨ s = 11 ∨ s = 12 ∨ s = 15 ∨ s = 18)) ∨ (28 ≤ k ∧ k ≤ 38) ∨ (k = 26 ∧ s = 12)
theorem wd_k (h : ∀ k s, wdI k s → gI τ k s = gI σ k s) (l : ∀ k s, (k = 71 ∧ (s = 13 ∨ s = 16)) ∨ (k = 80 ∧ (s = 108 ∨ s = 111)) → gL τ k s = gL σ k s) (r : rWd σ W) : rWd τ W := by
  obtain ⟨a, b, c, d⟩ := r
  exact ⟨wdR_k (fun k s z => h k s (Or.inl z)) (fun s z => l _ _ (by omega)) a, wldO_g b c.2.2.2.1.1.2 (fun k s z => h k s (Or.inr z)) (fun s z => l _ _ (by omega)), c, d⟩
theorem tk_k (h : ∀ k s, k = 84 ∨ k = 85 → gI τ k s = gI σ k s) (l : ∀ s, gL τ 83 s = gL σ 83 s) (r : rTk σ E) : rTk τ E := ⟨r.1, fun x hx z => by
  rw [h 85 x (by omega)] at z
  have e : (fun j => gL τ 83 (200 * x + j)) = fun j => gL σ 83 (200 * x + j) := funext fun j => l _
  rw [e, h 84 x (by omega)]
  exact r.2 x hx z⟩
theorem rs_k (h : gI τ 80 54 = gI σ 80 54) (l : ∀ k s, (k = 71 ∧ s = 14) ∨ (k = 80 ∧ s = 109) → gL τ k s = gL σ k s) (r : rRs σ) : rRs τ := ⟨by rw [l 71 14 (by omega), l 80 109 (by omega)]; exact r.1, h.trans r.2⟩
theorem slR_2 (e : τ.2.2 = σ.2.2) : slR τ s = slR σ s := by
  obtain ⟨r1, r2, r3⟩ := rt_R e
  unfold slR
  rw [r1, r1, r1, r1]
theorem in_k (e : τ.2.2 = σ.2.2) (hb : bOk τ) (h : ∀ k s, k = 15 ∨ k = 17 ∨ k = 74 ∨ 153 ≤ k → gI τ k s = gI σ k s) (l : ∀ k s, 7 ≤ k ∧ k ≤ 14 → gL τ k s = gL σ k s) (r : rIn σ) : rIn τ := by
  obtain ⟨a1, a2, ⟨B0, T0, a3⟩, a4, a5, a6, a7, a8⟩ := r
  obtain ⟨r1, r2, r3⟩ := rt_R e
  have ek : τ.2.2.2 = σ.2.2.2 := by rw [e]
  obtain ⟨q1, q2, q3⟩ := po_id (τ := τ) a4 (fun s _ => slR_2 e) ek
  have cc : ccn τ = ccn σ := by
    unfold ccn
    rw [show (fun s => (gR τ 73 s).isSome) = fun s => (gR σ 73 s).isSome from funext fun s => by rw [r1]]
  refine ⟨hb, fun s hs h1 => ?_, ⟨B0, T0, cdD_r e a3⟩, q1, by rw [cc]; exact q2 _ a5, by rw [r1]; exact a6, by rw [r1]; exact a7, fun s K hs hK => ?_⟩
  · have lw : (fun j => gL τ (7 + s) j) = (fun j => gL σ (7 + s) j) := funext fun j => l _ _ (by omega)
    rw [h 17 s (by omega)] at h1
    rw [lw, h 15 s (by omega)]
    obtain ⟨K, st, h1, h2, h3, h4, h5, h6⟩ := a2 s hs h1
    exact ⟨K, st, (r1 _ _).trans h1, (r2 _).trans h2, h3, (h _ _ (by omega)).trans h4, h5, fun x hx => ⟨(h6 x hx).1, codQ_g (fun z => h K z (by omega)) (h6 x hx).2⟩⟩
  · rw [r1] at hK
    obtain ⟨o1, o2⟩ := a8 s K hs hK
    exact ⟨by rw [r3]; exact o1, fun s c hs hc => o2 s c hs (by rw [← slR_2 e]; exact hc)⟩
end REL
