/-! ===== THE WALK: what is so at each time ===== -/
def cnt : Nat → (Nat → Bool) → Int
  | 0, _ => 0
  | n + 1, p => cnt n p + (if p n = true then 1 else 0)
theorem cnt_ext {p q : Nat → Bool} : ∀ n : Nat, (∀ j, j < n → p j = q j) → cnt n p = cnt n q := by
  intro n
  induction n with
  | zero => intro _; rfl
  | succ n ih =>
    intro h
    unfold cnt
    rw [ih fun j hj => h j (by omega), h n (by omega)]
theorem cnt_ge (p : Nat → Bool) : ∀ n : Nat, 0 ≤ cnt n p := by
  intro n
  induction n with
  | zero => exact Int.le_refl _
  | succ n ih =>
    unfold cnt
    split <;> omega
theorem cnt_pos {p : Nat → Bool} : ∀ (n : Nat) {j : Nat}, j < n → p j = true → 1 ≤ cnt n p := by
  intro n
  induction n with
  | zero => intro j hj; omega
  | succ n ih =>
    intro j hj hp
    unfold cnt
    have := cnt_ge p n
    by_cases e : j = n
    · subst e
      rw [if_pos hp]
      omega
    · have := ih (by omega) hp
      split <;> omega
theorem cnt_ex {p : Nat → Bool} : ∀ n : Nat, 0 < cnt n p → ∃ j, j < n ∧ p j = true := by
  intro n
  induction n with
  | zero => intro h; exact absurd h (by unfold cnt; omega)
  | succ n ih =>
    intro h
    unfold cnt at h
    by_cases e : p n = true
    · exact ⟨n, by omega, e⟩
    · rw [if_neg e] at h
      obtain ⟨j, j1, j2⟩ := ih (by omega)
      exact ⟨j, by omega, j2⟩
theorem cnt_no {p : Nat → Bool} (n : Nat) (h : ∀ j, j < n → p j = false) : cnt n p = 0 := by
  have a := cnt_ge p n
  refine Decidable.byContradiction fun e => ?_
  obtain ⟨j, j1, j2⟩ := cnt_ex n (show 0 < cnt n p by omega)
  rw [h j j1] at j2
  cases j2
theorem cnt_upd {p q : Nat → Bool} {k : Nat} : ∀ n : Nat, k < n → (∀ j, j < n → ¬ j = k → p j = q j) → p k = true → q k = false → cnt n p = cnt n q + 1 := by
  intro n
  induction n with
  | zero => intro h; omega
  | succ n ih =>
    intro hk h hp hq
    unfold cnt
    by_cases e : k = n
    · subst e
      rw [cnt_ext k fun j hj => h j (by omega) (by omega), if_pos hp, hq]
      simp
    · rw [ih (by omega) (fun j hj => h j (by omega)) hp hq, h n (by omega) (by omega)]
      omega
abbrev wtS (x : WT) : ST := x.1
abbrev wtA (x : WT) : Int := x.2.1
abbrev wtK (x : WT) : Nat := x.2.2.1
abbrev wtF (x : WT) : Int := x.2.2.2
/-- kept states have their order -/
def pK (S0 : ST) (N : Nat) (K : Nat → KT) : Prop := (1 ≤ N ∧ N ≤ 250) ∧ (kS (K 0) = S0 ∧ kA (K 0) = 0) ∧ ∀ k : Nat, k < N → (kB (K k) < k ∧ -1 ≤ kB (K k) ∧ (0 < k → 0 ≤ kB (K k))) ∧ 0 ≤ kF (K k) ∧ 0 ≤ kL (K k)
/-- how deep they lie -/
def dK (N : Nat) (K : Nat → KT) (D : Nat → Int) : Prop := D 0 = 0 ∧ ∀ k : Nat, k < N → 0 ≤ kB (K k) → D k = D (kB (K k)).toNat + kF (K k)
def wai (Wt : Nat → WT) (k j : Nat) : Bool := decide (wtK (Wt j) = k)
/-- p: one that is over, of which the one before doesn't know yet -/
def chd (K : Nat → KT) (p k j : Nat) : Bool := decide (kB (K j) = (k : Int) ∧ (0 < kW (K j) ∨ j = p))
/-- ways are counted -/
def cI (N M L p : Nat) (K : Nat → KT) (Wt : Nat → WT) : Prop := ∀ k : Nat, k < N → kW (K k) = (if L = k then 1 else 0) + cnt M (wai Wt k) + cnt N (chd K p k)
theorem chd_t {K : Nat → KT} {p k j : Nat} (h : kB (K j) = (k : Int)) (h2 : 0 < kW (K j) ∨ j = p) : chd K p k j = true := decide_eq_true ⟨h, h2⟩
theorem chd_f {K : Nat → KT} {p k j : Nat} (h : ¬ (kB (K j) = (k : Int) ∧ (0 < kW (K j) ∨ j = p))) : chd K p k j = false := decide_eq_false h
theorem chd_c {K K' : Nat → KT} {p p' k k' j j' : Nat} (h : (kB (K j) = (k : Int) ∧ (0 < kW (K j) ∨ j = p)) ↔ (kB (K' j') = (k' : Int) ∧ (0 < kW (K' j') ∨ j' = p'))) : chd K p k j = chd K' p' k' j' := by
  unfold chd
  exact decide_eq_decide.mpr h
section WI
variable {W : Type} {B : WB W} {H : WH W} {E : EV} {p : Int → B64} {tk : W → W} {S0 : ST}
/-- what a run does that stands at a kept state: it ends in time, or comes to where a way goes on -/
def semI (B : WB W) (H : WH W) (E : EV) (p : Int → B64) (tk : W → W) (Q : TC W → Prop) (f : Int) (N M L q : Nat) (K : Nat → KT) (Wt : Nat → WT) : Prop :=
  ∀ k : Nat, k < N → ∀ c : TC W, gC B E (kS (K k)) (kA (K k)) c →
    fin B H E p tk (kL (K k)).toNat c
    ∨ (L = k ∧ rch B H E p tk f.toNat Q c)
    ∨ (∃ j : Nat, j < M ∧ wtK (Wt j) = k ∧ rch B H E p tk (wtF (Wt j)).toNat (gC B E (wtS (Wt j)) (wtA (Wt j))) c)
    ∨ ∃ j : Nat, j < N ∧ kB (K j) = (k : Int) ∧ (0 < kW (K j) ∨ j = q) ∧ rch B H E p tk (kF (K j)).toNat (gC B E (kS (K j)) (kA (K j))) c
/-- a state that is over stands for runs that end in time -/
theorem over_fin {Q : TC W → Prop} {f : Int} {N M L q : Nat} {K : Nat → KT} {Wt : Nat → WT} (hc : cI N M L q K Wt) (hs : semI B H E p tk Q f N M L q K Wt) {k : Nat} (hk : k < N) (h0 : kW (K k) ≤ 0) {c : TC W} (g : gC B E (kS (K k)) (kA (K k)) c) : fin B H E p tk (kL (K k)).toNat c := by
  have e := hc k hk
  have a := cnt_ge (wai Wt k) M
  have b := cnt_ge (chd K q k) N
  rcases hs k hk c g with h | ⟨h, _⟩ | ⟨j, j1, j2, _⟩ | ⟨j, j1, j2, j3, _⟩
  · exact h
  · rw [if_pos h] at e
    exfalso; omega
  · have := cnt_pos M j1 (show wai Wt k j = true from decide_eq_true j2)
    exfalso
    split at e <;> omega
  · have := cnt_pos N j1 (chd_t j2 j3)
    exfalso
    split at e <;> omega
theorem fin_add {m n : Nat} {c : TC W} (h : rch B H E p tk m (fin B H E p tk n) c) : fin B H E p tk (m + n) c := rch_add m n c h
/-- what comes of closing -/
def cloR (B : WB W) (H : WH W) (E : EV) (p : Int → B64) (tk : W → W) (S0 : ST) (N M : Nat) (Wt : Nat → WT) (D : Nat → Int) (G : Int) (k : Nat) (K K' : Nat → KT) : Prop :=
  (pK S0 N K' ∧ dK N K' D) ∧ (∀ j, kS (K' j) = kS (K j) ∧ kA (K' j) = kA (K j) ∧ kB (K' j) = kB (K j) ∧ kF (K' j) = kF (K j))
  ∧ cI N M 1000 1000 K' Wt ∧ semI B H E p tk (fun _ => False) 0 N M 1000 1000 K' Wt
  ∧ (∀ j, j < N → kW (K' j) ≤ kW (K j)) ∧ (∀ j, j < N → kW (K j) ≤ 0 → K' j = K j)
  ∧ ∀ j, j < N → 0 < kW (K j) ∨ j = k → D j + kL (K' j) ≤ G
theorem ovr_eq {K : Nat → KT} {b : Nat} {n : Int} {j : Nat} (h : ¬ j = b) : ovrK K b n j = K j := if_neg h
theorem ovr_b {K : Nat → KT} {b : Nat} {n : Int} : ovrK K b n b = (kS (K b), kA (K b), kB (K b), kF (K b), kW (K b) - 1, if kL (K b) < n then n else kL (K b)) := if_pos rfl
theorem ovr_same {K : Nat → KT} {b : Nat} {n : Int} (j : Nat) : kS (ovrK K b n j) = kS (K j) ∧ kA (ovrK K b n j) = kA (K j) ∧ kB (ovrK K b n j) = kB (K j) ∧ kF (ovrK K b n j) = kF (K j) := by
  by_cases e : j = b
  · rw [e, ovr_b]; exact ⟨rfl, rfl, rfl, rfl⟩
  · rw [ovr_eq e]; exact ⟨rfl, rfl, rfl, rfl⟩
theorem ovr_W {K : Nat → KT} {b : Nat} {n : Int} (j : Nat) : kW (ovrK K b n j) = kW (K j) - (if j = b then 1 else 0) := by
  by_cases e : j = b
  · rw [e, ovr_b, if_pos rfl]
  · rw [ovr_eq e, if_neg e]; omega
theorem ovr_L {K : Nat → KT} {b : Nat} {n : Int} (j : Nat) : kL (K j) ≤ kL (ovrK K b n j) := by
  by_cases e : j = b
  · rw [e, ovr_b]
    show kL (K b) ≤ if kL (K b) < n then n else kL (K b)
    split <;> omega
  · rw [ovr_eq e]; exact Int.le_refl _
theorem ovr_n {K : Nat → KT} {b : Nat} {n : Int} : n ≤ kL (ovrK K b n b) := by
  rw [ovr_b]
  show n ≤ if kL (K b) < n then n else kL (K b)
  split <;> omega
theorem ovr_m {K : Nat → KT} {b : Nat} {n x : Int} (h1 : kL (K b) ≤ x) (h2 : n ≤ x) : kL (ovrK K b n b) ≤ x := by
  rw [ovr_b]
  show (if kL (K b) < n then n else kL (K b)) ≤ x
  split <;> omega
theorem pK_ovr {N : Nat} {K : Nat → KT} {b : Nat} {n : Int} (h : pK S0 N K) : pK S0 N (ovrK K b n) := by
  obtain ⟨h1, h2, h3⟩ := h
  obtain ⟨s1, s2, s3, s4⟩ := ovr_same (K := K) (b := b) (n := n) 0
  refine ⟨h1, ⟨s1.trans h2.1, s2.trans h2.2⟩, fun k hk => ?_⟩
  obtain ⟨q1, q2, q3, q4⟩ := ovr_same (K := K) (b := b) (n := n) k
  have l := ovr_L (K := K) (b := b) (n := n) k
  obtain ⟨a1, a2, a3⟩ := h3 k hk
  rw [q3, q4]
  exact ⟨a1, a2, by omega⟩
theorem dK_ovr {N : Nat} {K : Nat → KT} {b : Nat} {n : Int} {D : Nat → Int} (h : dK N K D) : dK N (ovrK K b n) D := by
  refine ⟨h.1, fun k hk hb => ?_⟩
  obtain ⟨q1, q2, q3, q4⟩ := ovr_same (K := K) (b := b) (n := n) k
  rw [q3] at hb ⊢
  rw [q4]
  exact h.2 k hk hb
theorem clo_i {N M : Nat} {Wt : Nat → WT} {D : Nat → Int} {G : Int} : ∀ (f k : Nat) (K : Nat → KT), k < f → k < N → pK S0 N K → dK N K D → cI N M 1000 k K Wt → semI B H E p tk (fun _ => False) 0 N M 1000 k K Wt → (∀ j, j < N → 0 < kW (K j) ∨ j = k → D j + kL (K j) ≤ G) → cloR B H E p tk S0 N M Wt D G k K (cloK f K k) := by
  intro f
  induction f with
  | zero => intro k K h; omega
  | succ f ih =>
    intro k K hf hk hp hd hc hs hb
    have ge0 : ∀ j, j < N → 0 ≤ kW (K j) := fun j hj => by
      have e := hc j hj
      have a := cnt_ge (wai Wt j) M
      have b := cnt_ge (chd K k j) N
      split at e <;> omega
    unfold cloK
    by_cases c : kW (K k) = 0 ∧ 0 ≤ kB (K k)
    · rw [if_pos c]
      obtain ⟨P1, P2, P3⟩ := hp
      obtain ⟨⟨b1, b2, b3⟩, b4, b5⟩ := P3 k hk
      generalize hb' : (kB (K k)).toNat = b at *
      have eb : kB (K k) = (b : Int) := by omega
      have bk : b < k := by omega
      have bN : b < N := by omega
      have kW1 : 1 ≤ kW (K b) := by
        have e := hc b bN
        have a := cnt_ge (wai Wt b) M
        have := cnt_pos N hk (chd_t (K := K) (p := k) eb (Or.inr rfl))
        split at e <;> omega
      have hp : pK S0 N K := ⟨P1, P2, P3⟩
      have key := ih b (ovrK K b (kF (K k) + kL (K k))) (by omega) bN (pK_ovr hp) (dK_ovr hd) (fun i hi => ?_) (fun i hi cc g => ?_) (fun j hj q => ?_)
      · obtain ⟨r1, r2, r3, r4, r5, r6, r7⟩ := key
        refine ⟨r1, fun j => ?_, r3, r4, fun j hj => ?_, fun j hj q => ?_, fun j hj q => ?_⟩
        · obtain ⟨q1, q2, q3, q4⟩ := ovr_same (K := K) (b := b) (n := kF (K k) + kL (K k)) j
          obtain ⟨z1, z2, z3, z4⟩ := r2 j
          exact ⟨z1.trans q1, z2.trans q2, z3.trans q3, z4.trans q4⟩
        · have := r5 j hj
          rw [ovr_W] at this
          split at this <;> omega
        · have ne : ¬ j = b := fun e => by rw [e] at q; omega
          have := r6 j hj (by rw [ovr_eq ne]; exact q)
          rw [this, ovr_eq ne]
        · by_cases e : j = b
          · exact r7 j hj (Or.inr e)
          · by_cases w : 0 < kW (K j)
            · exact r7 j hj (Or.inl (by rw [ovr_eq e]; exact w))
            · have u := r6 j hj (by rw [ovr_eq e]; omega)
              rw [u, ovr_eq e]
              exact hb j hj q
      · -- counts
        rw [ovr_W, hc i hi]
        have nL : ¬ 1000 = i := by omega
        rw [if_neg nL]
        by_cases e : i = b
        · subst e
          rw [if_pos rfl]
          have := cnt_upd (p := chd K k i) (q := chd (ovrK K i (kF (K k) + kL (K k))) i i) N hk (fun j hj nj => ?_) (chd_t eb (Or.inr rfl)) (chd_f ?_)
          · omega
          · refine chd_c ?_
            rw [(ovr_same j).2.2.1, ovr_W]
            have pj := (P3 j hj).1.1
            by_cases ej : j = i
            · subst ej
              constructor <;> (intro q; exfalso; omega)
            · rw [if_neg ej]
              constructor <;> (intro q; exact ⟨q.1, Or.inl (by omega)⟩)
          · rw [ovr_eq (by omega)]
            intro q
            omega
        · rw [if_neg e]
          have : cnt N (chd K k i) = cnt N (chd (ovrK K b (kF (K k) + kL (K k))) b i) := cnt_ext N fun j hj => by
            refine chd_c ?_
            rw [(ovr_same j).2.2.1, ovr_W]
            by_cases ej : j = b
            · subst ej
              rw [if_pos rfl]
              constructor
              · intro q; exact ⟨q.1, Or.inr rfl⟩
              · intro q; exact ⟨q.1, Or.inl (by omega)⟩
            · rw [if_neg ej]
              constructor
              · intro q
                refine ⟨q.1, ?_⟩
                rcases q.2 with w | w
                · exact Or.inl (by omega)
                · exfalso
                  rw [w] at q
                  have := q.1
                  omega
              · intro q
                exact ⟨q.1, Or.inl (by omega)⟩
          omega
      · -- runs
        obtain ⟨q1, q2, q3, q4⟩ := ovr_same (K := K) (b := b) (n := kF (K k) + kL (K k)) i
        rw [q1, q2] at g
        rcases hs i hi cc g with h | ⟨h, _⟩ | ⟨j, j1, j2, j3⟩ | ⟨j, j1, j2, j3, j4⟩
        · have := ovr_L (K := K) (b := b) (n := kF (K k) + kL (K k)) i
          exact Or.inl (fin_le h (by omega))
        · exfalso; omega
        · exact Or.inr (Or.inr (Or.inl ⟨j, j1, j2, j3⟩))
        · by_cases ej : j = k
          · subst ej
            have ib : i = b := by omega
            subst ib
            have fk := rch_mono (fun c' gc => over_fin hc hs hk (by omega) gc) _ _ j4
            have := ovr_n (K := K) (b := i) (n := kF (K j) + kL (K j))
            exact Or.inl (fin_le (fin_add fk) (by omega))
          · have w0 : 0 < kW (K j) := by
              rcases j3 with w | w
              · exact w
              · exact absurd w ej
            obtain ⟨z1, z2, z3, z4⟩ := ovr_same (K := K) (b := b) (n := kF (K k) + kL (K k)) j
            refine Or.inr (Or.inr (Or.inr ⟨j, j1, z3.trans j2, ?_, ?_⟩))
            · by_cases e : j = b
              · exact Or.inr e
              · rw [ovr_eq e]
                exact Or.inl w0
            · rw [z1, z2, z4]
              exact j4
      · by_cases e : j = b
        · subst e
          have := hd.2 k hk (by omega)
          rw [hb'] at this
          have o1 := hb j hj (Or.inl (by omega))
          have o2 := hb k hk (Or.inr rfl)
          have : kL (ovrK K j (kF (K k) + kL (K k)) j) ≤ G - D j := ovr_m (by omega) (by omega)
          omega
        · rw [ovr_eq e] at q ⊢
          rcases q with q | q
          · exact hb j hj (Or.inl q)
          · exact absurd q e
    · rw [if_neg c]
      have same : ∀ i j, i < N → j < N → ((kB (K j) = (i : Int) ∧ (0 < kW (K j) ∨ j = k)) ↔ (kB (K j) = (i : Int) ∧ (0 < kW (K j) ∨ j = 1000))) := fun i j hi hj => by
        have := hp.1
        have g0 := ge0 j hj
        constructor
        · intro q
          refine ⟨q.1, ?_⟩
          rcases q.2 with w | w
          · exact Or.inl w
          · subst w
            refine Or.inl ?_
            have := q.1
            omega
        · intro q
          refine ⟨q.1, Or.inl ?_⟩
          rcases q.2 with w | w
          · exact w
          · exfalso; omega
      refine ⟨⟨hp, hd⟩, fun j => ⟨rfl, rfl, rfl, rfl⟩, fun i hi => ?_, fun i hi cc g => ?_, fun j hj => Int.le_refl _, fun j hj _ => rfl, hb⟩
      · rw [hc i hi, cnt_ext N fun j hj => chd_c (same i j hi hj)]
      · rcases hs i hi cc g with h | h | h | ⟨j, j1, j2, j3, j4⟩
        · exact Or.inl h
        · exact Or.inr (Or.inl h)
        · exact Or.inr (Or.inr (Or.inl h))
        · have := (same i j hi j1).mp ⟨j2, j3⟩
          exact Or.inr (Or.inr (Or.inr ⟨j, j1, this.1, this.2, j4⟩))
/-- the way at hand ends -/
theorem endw_i {Q : TC W → Prop} {f n : Int} {N M L : Nat} {K : Nat → KT} {Wt : Nat → WT} {D : Nat → Int} {G : Int} (hL : L < N) (hp : pK S0 N K) (hd : dK N K D) (hc : cI N M L 1000 K Wt) (hs : semI B H E p tk Q f N M L 1000 K Wt) (hn : ∀ c, rch B H E p tk f.toNat Q c → fin B H E p tk n.toNat c) (hb : ∀ j, j < N → 0 < kW (K j) → D j + kL (K j) ≤ G) (hG : D L + n ≤ G) :
    (pK S0 N (endK K L n) ∧ dK N (endK K L n) D) ∧ (∀ j, kS (endK K L n j) = kS (K j) ∧ kA (endK K L n j) = kA (K j) ∧ kB (endK K L n j) = kB (K j) ∧ kF (endK K L n j) = kF (K j))
    ∧ cI N M 1000 1000 (endK K L n) Wt ∧ semI B H E p tk (fun _ => False) 0 N M 1000 1000 (endK K L n) Wt
    ∧ (∀ j, j < N → kW (endK K L n j) ≤ kW (K j)) ∧ (∀ j, j < N → kW (K j) ≤ 0 → endK K L n j = K j)
    ∧ ∀ j, j < N → 0 < kW (K j) → D j + kL (endK K L n j) ≤ G := by
  have N250 := hp.1
  have kW1 : 1 ≤ kW (K L) := by
    have e := hc L hL
    have a := cnt_ge (wai Wt L) M
    have b := cnt_ge (chd K 1000 L) N
    rw [if_pos rfl] at e
    omega
  have key : cloR B H E p tk S0 N M Wt D G L (ovrK K L n) (cloK 250 (ovrK K L n) L) := clo_i 250 L (ovrK K L n) (by omega) hL (pK_ovr hp) (dK_ovr hd) (fun i hi => ?_) (fun i hi cc g => ?_) (fun j hj q => ?_)
  · obtain ⟨r1, r2, r3, r4, r5, r6, r7⟩ := key
    refine ⟨r1, fun j => ?_, r3, r4, fun j hj => ?_, fun j hj q => ?_, fun j hj q => ?_⟩
    · obtain ⟨q1, q2, q3, q4⟩ := ovr_same (K := K) (b := L) (n := n) j
      obtain ⟨z1, z2, z3, z4⟩ := r2 j
      exact ⟨z1.trans q1, z2.trans q2, z3.trans q3, z4.trans q4⟩
    · have := r5 j hj
      rw [ovr_W] at this
      show kW (cloK 250 (ovrK K L n) L j) ≤ _
      split at this <;> omega
    · have ne : ¬ j = L := fun e => by rw [e] at q; omega
      have := r6 j hj (by rw [ovr_eq ne]; exact q)
      show cloK 250 (ovrK K L n) L j = _
      rw [this, ovr_eq ne]
    · refine r7 j hj ?_
      by_cases e : j = L
      · exact Or.inr e
      · rw [ovr_eq e]
        exact Or.inl q
  · rw [ovr_W, hc i hi]
    have nL : ¬ 1000 = i := by omega
    rw [if_neg nL]
    have : cnt N (chd K 1000 i) = cnt N (chd (ovrK K L n) L i) := cnt_ext N fun j hj => by
      refine chd_c ?_
      rw [(ovr_same j).2.2.1, ovr_W]
      have pj := (hp.2.2 j hj).1.1
      by_cases ej : j = L
      · subst ej
        rw [if_pos rfl]
        constructor
        · intro q; exact ⟨q.1, Or.inr rfl⟩
        · intro q; exact ⟨q.1, Or.inl (by omega)⟩
      · rw [if_neg ej]
        constructor <;> (intro q; exact ⟨q.1, Or.inl (by omega)⟩)
    by_cases e : i = L
    · rw [if_pos e, if_pos e.symm]
      omega
    · rw [if_neg e, if_neg (fun q => e q.symm)]
      omega
  · obtain ⟨q1, q2, q3, q4⟩ := ovr_same (K := K) (b := L) (n := n) i
    rw [q1, q2] at g
    rcases hs i hi cc g with h | ⟨h, h2⟩ | ⟨j, j1, j2, j3⟩ | ⟨j, j1, j2, j3, j4⟩
    · have := ovr_L (K := K) (b := L) (n := n) i
      exact Or.inl (fin_le h (by omega))
    · have := ovr_n (K := K) (b := L) (n := n)
      rw [h] at this
      refine Or.inl (fin_le (hn cc h2) ?_)
      rw [h]
      omega
    · exact Or.inr (Or.inr (Or.inl ⟨j, j1, j2, j3⟩))
    · obtain ⟨z1, z2, z3, z4⟩ := ovr_same (K := K) (b := L) (n := n) j
      refine Or.inr (Or.inr (Or.inr ⟨j, j1, z3.trans j2, ?_, ?_⟩))
      · by_cases e : j = L
        · exact Or.inr e
        · rw [ovr_eq e]
          rcases j3 with w | w
          · exact Or.inl w
          · exfalso; omega
      · rw [z1, z2, z4]
        exact j4
  · by_cases e : j = L
    · subst e
      have o1 := hb j hj (by omega)
      have : kL (ovrK K j n j) ≤ G - D j := ovr_m (by omega) (by omega)
      omega
    · rw [ovr_eq e] at q ⊢
      rcases q with q | q
      · exact hb j hj q
      · exact absurd q e
/-- none waits: all are over -/
theorem all_over {N : Nat} {K : Nat → KT} {Wt : Nat → WT} (hp : pK S0 N K) (hc : cI N 0 1000 1000 K Wt) : ∀ (d k : Nat), k < N → N - k ≤ d → kW (K k) = 0 := by
  intro d
  induction d with
  | zero => intro k hk h; omega
  | succ d ih =>
    intro k hk h
    rw [hc k hk, if_neg (by have := hp.1; omega)]
    have : cnt N (chd K 1000 k) = 0 := cnt_no N fun j hj => chd_f fun q => by
      have pj := (hp.2.2 j hj).1.1
      have := ih j hj (by omega)
      rcases q.2 with w | w
      · omega
      · have := hp.1; omega
    rw [this]
    rfl
/-- one that is not over: one waits that was kept behind it -/
theorem open_wait {N M : Nat} {K : Nat → KT} {Wt : Nat → WT} (hp : pK S0 N K) (hc : cI N M 1000 1000 K Wt) : ∀ (d k : Nat), k < N → N - k ≤ d → 0 < kW (K k) → ∃ j, j < M ∧ k ≤ wtK (Wt j) := by
  intro d
  induction d with
  | zero => intro k hk h; omega
  | succ d ih =>
    intro k hk h h0
    have e := hc k hk
    have N250 := hp.1
    rw [if_neg (by omega)] at e
    by_cases c : 0 < cnt M (wai Wt k)
    · obtain ⟨j, j1, j2⟩ := cnt_ex M c
      have j2 : wtK (Wt j) = k := of_decide_eq_true j2
      exact ⟨j, j1, by omega⟩
    · obtain ⟨j, j1, j2⟩ := cnt_ex N (show 0 < cnt N (chd K 1000 k) by omega)
      have j2 := of_decide_eq_true j2
      have pj := (hp.2.2 j j1).1.1
      have w : 0 < kW (K j) := by
        rcases j2.2 with w | w
        · exact w
        · exfalso; omega
      obtain ⟨i, i1, i2⟩ := ih j j1 (by omega) w
      exact ⟨i, i1, by omega⟩
/-- the first one is not over while one is not -/
theorem open_0 {N M L : Nat} {K : Nat → KT} {Wt : Nat → WT} (hp : pK S0 N K) (hc : cI N M L 1000 K Wt) : ∀ (d a : Nat), a < d → a < N → 0 < kW (K a) → 0 < kW (K 0) := by
  intro d
  induction d with
  | zero => intro a h; omega
  | succ d ih =>
    intro a h ha h0
    by_cases e : a = 0
    · rw [e] at h0; exact h0
    · obtain ⟨a1, a2, a3⟩ := (hp.2.2 a ha).1
      have a3 := a3 (by omega)
      have bN : (kB (K a)).toNat < N := by omega
      have e := hc _ bN
      have x := cnt_ge (wai Wt (kB (K a)).toNat) M
      have := cnt_pos N ha (chd_t (K := K) (p := 1000) (show kB (K a) = ((kB (K a)).toNat : Int) by omega) (Or.inl h0))
      refine ih _ (by omega) bN ?_
      split at e <;> omega
/-- a chain: what lies above what is not over is not over -/
theorem open_up {N M : Nat} {K K' : Nat → KT} {Wt : Nat → WT} (hp : pK S0 N K') (hc : cI N M 1000 1000 K' Wt) (hle : ∀ j, j < N → kW (K' j) ≤ kW (K j)) (hB : ∀ j, kB (K' j) = kB (K j)) (hch : ∀ a k : Nat, a < N → k < N → 0 < kW (K a) → 0 < kW (K k) → k < a → (k : Int) ≤ kB (K a)) {k : Nat} (hk : k < N) (hk0 : 0 < kW (K k)) : ∀ (d a : Nat), a < d → a < N → k ≤ a → 0 < kW (K' a) → 0 < kW (K' k) := by
  intro d
  induction d with
  | zero => intro a h; omega
  | succ d ih =>
    intro a h ha hka h0
    by_cases e : a = k
    · rw [e] at h0; exact h0
    · have l := hle a ha
      have q := hch a k ha hk (by omega) hk0 (by omega)
      obtain ⟨a1, a2, a3⟩ := (hp.2.2 a ha).1
      rw [hB] at a1 a2 a3
      have bN : (kB (K a)).toNat < N := by omega
      have e := hc _ bN
      have x := cnt_ge (wai Wt (kB (K a)).toNat) M
      have := cnt_pos N ha (chd_t (K := K') (p := 1000) (show kB (K' a) = ((kB (K a)).toNat : Int) by rw [hB]; omega) (Or.inl h0))
      refine ih _ (by omega) bN (by omega) ?_
      split at e <;> omega
end WI
