/-! ===== the class's walk against the pure walk: a state is kept ===== -/
section CKPW
variable {a b c τ σ ρ : MS} {cf wf cf' : Nat → Nat} {D : Nat → Bool} {hc q s k j : Nat} {w : WK} {C B n F : Int} {S : ST} {K K' : Nat → KT} {x : KT} {N : Nat} {P : Nat → Bool}
theorem fnd_no : ∀ f m : Nat, fnd P f m = none → ∀ j, m ≤ j → j < m + f → P j = false := by
  intro f
  induction f with
  | zero => intro m _ j h1 h2; omega
  | succ f ih =>
    intro m h j h1 h2
    have h : (if P m = true then some m else fnd P f (m + 1)) = none := h
    by_cases e : P m = true
    · rw [if_pos e] at h
      cases h
    · rw [if_neg e] at h
      by_cases jm : j = m
      · rw [jm]
        simpa using e
      · exact ih (m + 1) h j (by omega) (by omega)
theorem fnd_all : ∀ f m : Nat, (∀ j, m ≤ j → j < m + f → P j = false) → fnd P f m = none := by
  intro f
  induction f with
  | zero => intro m _; rfl
  | succ f ih =>
    intro m h
    show (if P m = true then some m else fnd P f (m + 1)) = none
    rw [if_neg (by rw [h m (by omega) (by omega)]; decide), ih (m + 1) (fun j h1 h2 => h j (by omega) (by omega))]
theorem lnd_no : ∀ n : Nat, lnd P n = some k → ∀ j, k < j → j < n → P j = false := by
  intro n
  induction n with
  | zero => intro h; cases h
  | succ n ih =>
    intro h j h1 h2
    have h : (if P n = true then some n else lnd P n) = some k := h
    by_cases e : P n = true
    · rw [if_pos e] at h
      have := Option.some.inj h
      omega
    · rw [if_neg e] at h
      by_cases jn : j = n
      · rw [jn]
        simpa using e
      · exact ih h j h1 (by omega)
theorem lnd_of : ∀ n : Nat, k < n → P k = true → (∀ j, k < j → j < n → P j = false) → lnd P n = some k := by
  intro n
  induction n with
  | zero => intro h; omega
  | succ n ih =>
    intro h1 h2 h3
    show (if P n = true then some n else lnd P n) = some k
    by_cases e : k = n
    · rw [if_pos (e ▸ h2), e]
    · rw [if_neg (by rw [h3 n (by omega) (by omega)]; decide), ih (by omega) h2 (fun j p q => h3 j p (by omega))]
theorem map_cf {o : Option Nat} (h : ∀ y, o = some y → cf' y = cf y) : o.map cf' = o.map cf := by
  cases o with
  | none => rfl
  | some y =>
    show some (cf' y) = some (cf y)
    rw [h y rfl]
theorem up_e : upK K N x N = x := if_pos rfl
theorem up_n (h : ¬ j = N) : upK K N x j = K j := if_neg h
/-- the list of a word, one more behind it -/
theorem kf_s {a : Int} (hk : k < N) (ha : kA x = a) : fnd (fun j => decide (kA (upK K N x j) = kA (upK K N x k))) (N + 1 - (k + 1)) (k + 1) = (match fnd (fun j => decide (kA (K j) = kA (K k))) (N - (k + 1)) (k + 1) with
    | some y => some y
    | none => if kA (K k) = a then some N else none) := by
  have e1 : fnd (fun j => decide (kA (upK K N x j) = kA (upK K N x k))) (N - (k + 1)) (k + 1) = fnd (fun j => decide (kA (K j) = kA (K k))) (N - (k + 1)) (k + 1) := fnd_g _ _ (fun j h1 h2 => by
    show decide (kA (upK K N x j) = kA (upK K N x k)) = decide (kA (K j) = kA (K k))
    rw [up_n (by omega), up_n (by omega)])
  rw [show N + 1 - (k + 1) = (N - (k + 1)) + 1 by omega, fnd_s, e1]
  cases fnd (fun j => decide (kA (K j) = kA (K k))) (N - (k + 1)) (k + 1) with
  | some y => rfl
  | none =>
    show (if decide (kA (upK K N x (k + 1 + (N - (k + 1)))) = kA (upK K N x k)) = true then some (k + 1 + (N - (k + 1))) else none) = if kA (K k) = a then some N else none
    rw [show k + 1 + (N - (k + 1)) = N by omega, up_e, up_n (by omega), ha]
    by_cases e : kA (K k) = a
    · rw [if_pos e, if_pos (decide_eq_true e.symm)]
    · rw [if_neg e, if_neg (fun z => e (of_decide_eq_true z).symm)]
theorem kf_f {a b : Int} (ha : kA x = a) : fnd (fun j => decide (kA (upK K N x j) = b)) (N + 1) 0 = (match fnd (fun j => decide (kA (K j) = b)) N 0 with
    | some y => some y
    | none => if a = b then some N else none) := by
  have e1 : fnd (fun j => decide (kA (upK K N x j) = b)) N 0 = fnd (fun j => decide (kA (K j) = b)) N 0 := fnd_g _ _ (fun j h1 h2 => by
    show decide (kA (upK K N x j) = b) = decide (kA (K j) = b)
    rw [up_n (by omega)])
  rw [fnd_s, e1]
  cases fnd (fun j => decide (kA (K j) = b)) N 0 with
  | some y => rfl
  | none =>
    show (if decide (kA (upK K N x (0 + N)) = b) = true then some (0 + N) else none) = if a = b then some N else none
    rw [Nat.zero_add, up_e, ha]
    by_cases e : a = b
    · rw [if_pos e, if_pos (decide_eq_true e)]
    · rw [if_neg e, if_neg (fun z => e (of_decide_eq_true z))]
theorem kf_l {a b : Int} (ha : kA x = a) : lnd (fun j => decide (kA (upK K N x j) = b)) (N + 1) = (if a = b then some N else lnd (fun j => decide (kA (K j) = b)) N) := by
  have e1 : lnd (fun j => decide (kA (upK K N x j) = b)) N = lnd (fun j => decide (kA (K j) = b)) N := lnd_g _ (fun j h1 => by
    show decide (kA (upK K N x j) = b) = decide (kA (K j) = b)
    rw [up_n (by omega)])
  show (if decide (kA (upK K N x N) = b) = true then some N else lnd (fun j => decide (kA (upK K N x j) = b)) N) = _
  rw [e1, up_e, ha]
  by_cases e : a = b
  · rw [if_pos e, if_pos (decide_eq_true e)]
  · rw [if_neg e, if_neg (fun z => e (of_decide_eq_true z))]
/-- the new kept states, from what keep leaves -/
theorem kp_KC {c : Nat} {l : Option Nat} {a : Nat} (po : POOL σ) (N250 : N < 250) (h14 : gR σ 39 14 = some hc) (hk : ∀ k, k < N → gR σ 58 k = some (cf k)) (hK : KC σ cf K N D) (far : ∀ s x, s < 312 → ¬ s = 2 + N → slR σ s = some x → c + 3 < x ∨ x + 3 < c) (fr : kpq τ σ c hc N a l)
    (n1 : isSt τ c ∧ isCl c) (n2 : CSt τ c S ∧ (gI τ c 5 = (a : Int) ∧ gI τ c 7 = F ∧ gI τ c 9 = 0 ∧ gI τ c 10 = 0) ∧ gR τ c 6 = (if 0 ≤ kB x then some (cf (kB x).toNat) else none)) (ex : x = (S, (a : Int), kB x, F, 1, 0)) (hb : kB x < (N : Int)) (hB : ∀ j, j < N → kB (K j) < (j : Int)) :
    KC τ (fun k => if k = N then c else cf k) (upK K N x) (N + 1) (fun k => if k = N then false else D k) := fun k hkN => by
  obtain ⟨f1, f2, f3, f4⟩ := fr
  by_cases e : k = N
  · subst e
    rw [up_e]
    have ec : (if k = k then c else cf k) = c := if_pos rfl
    show (isSt τ (if k = k then c else cf k) ∧ stC (if k = k then c else cf k)) ∧ CSt τ (if k = k then c else cf k) (kS x) ∧ (gI τ (if k = k then c else cf k) 5 = kA x ∧ gI τ (if k = k then c else cf k) 7 = kF x ∧ gI τ (if k = k then c else cf k) 9 = kL x ∧ gI τ (if k = k then c else cf k) 10 = (if (if k = k then false else D k) = true then 1 else 0)) ∧ gR τ (if k = k then c else cf k) 6 = (if 0 ≤ kB x then some (if (kB x).toNat = k then c else cf (kB x).toNat) else none)
    rw [ec, if_pos rfl, if_neg (by decide), ex]
    obtain ⟨c1, ⟨c5, c7, c9, c10⟩, c6⟩ := n2
    refine ⟨⟨n1.1, cl_s n1.2⟩, c1, ⟨c5, c7, c9, c10⟩, ?_⟩
    show gR τ c 6 = (if 0 ≤ kB x then some (if (kB x).toNat = k then c else cf (kB x).toNat) else none)
    rw [c6]
    by_cases z : 0 ≤ kB x
    · rw [if_pos z, if_pos z, if_neg (show ¬ (kB x).toNat = k by omega)]
    · rw [if_neg z, if_neg z]
  · have hk2 : k < N := by omega
    obtain ⟨⟨a1, ac⟩, a2, ⟨a5, a7, a9, a10⟩, a6⟩ := hK k hk2
    have s1 : slR σ (2 + k) = some (cf k) := (sR_kp (by omega)).trans (hk k hk2)
    have d := far (2 + k) (cf k) (by omega) (by omega) s1
    have dh := po.2 (2 + k) 0 _ _ (by omega) (by decide) (by omega) s1 (sR_z.trans h14)
    have bk := hB k hk2
    rw [up_n e]
    show (isSt τ (if k = N then c else cf k) ∧ stC (if k = N then c else cf k)) ∧ CSt τ (if k = N then c else cf k) (kS (K k)) ∧ (gI τ (if k = N then c else cf k) 5 = kA (K k) ∧ gI τ (if k = N then c else cf k) 7 = kF (K k) ∧ gI τ (if k = N then c else cf k) 9 = kL (K k) ∧ gI τ (if k = N then c else cf k) 10 = (if (if k = N then false else D k) = true then 1 else 0)) ∧ gR τ (if k = N then c else cf k) 6 = (if 0 ≤ kB (K k) then some (if (kB (K k)).toNat = N then c else cf (kB (K k)).toNat) else none)
    rw [if_neg e, if_neg e]
    have g : ∀ q s, cf k ≤ q → q < cf k + 4 → gI τ q s = gI σ q s := fun q s h1 h2 => f1 q s (by omega) (by omega) (by omega)
    refine ⟨⟨st_kd (fun q h1 h2 => f4 q (by omega)) a1, ac⟩, CSt_q (fun s => g _ _ (by omega) (by omega)) (fun s => g _ _ (by omega) (by omega)) (fun s => g _ _ (by omega) (by omega)) (fun s => f2 _ _ (by omega)) a2, ⟨(g _ _ (by omega) (by omega)).trans a5, (g _ _ (by omega) (by omega)).trans a7, (g _ _ (by omega) (by omega)).trans a9, (g _ _ (by omega) (by omega)).trans a10⟩, ?_⟩
    rw [f3 (cf k) 6 (by omega) (by omega) (by omega) (by omega) (fun _ => by omega) (fun y _ => by omega), a6]
    by_cases z : 0 ≤ kB (K k)
    · rw [if_pos z, if_pos z, if_neg (show ¬ (kB (K k)).toNat = N by omega)]
    · rw [if_neg z, if_neg z]
theorem kp_KF {c : Nat} {a : Nat} (po : POOL σ) (N250 : N < 250) (h14 : gR σ 39 14 = some hc) (hk : ∀ k, k < N → gR σ 58 k = some (cf k)) (hK : ∀ k, k < N → stC (cf k)) (hF : KF σ cf K N) (far : ∀ s x, s < 312 → ¬ s = 2 + N → slR σ s = some x → c + 3 < x ∨ x + 3 < c) (hcc : isCl c) (fr : kpq τ σ c hc N a ((lnd (fun j => decide (kA (K j) = (a : Int))) N).map cf))
    (r8 : gR τ c 8 = none) (rx : ∀ x, (lnd (fun j => decide (kA (K j) = (a : Int))) N).map cf = some x → gR τ x 8 = some c) (ha : kA x = (a : Int)) :
    KF τ (fun k => if k = N then c else cf k) (upK K N x) (N + 1) := fun k hkN => by
  obtain ⟨f1, f2, f3, f4⟩ := fr
  by_cases e : k = N
  · subst e
    rw [show k + 1 - (k + 1) = 0 by omega]
    show gR τ (if k = k then c else cf k) 8 = none
    rw [if_pos rfl]
    exact r8
  · have hk2 : k < N := by omega
    have s1 : slR σ (2 + k) = some (cf k) := (sR_kp (by omega)).trans (hk k hk2)
    have d := far (2 + k) (cf k) (by omega) (by omega) s1
    have dh := po.2 (2 + k) 0 _ _ (by omega) (by decide) (by omega) s1 (sR_z.trans h14)
    have ck := hK k hk2
    rw [kf_s hk2 ha]
    show gR τ (if k = N then c else cf k) 8 = _
    rw [if_neg e]
    have bd : ∀ y, fnd (fun j => decide (kA (K j) = kA (K k))) (N - (k + 1)) (k + 1) = some y → y < N := fun y z => by
      have := fnd_b _ _ z
      omega
    have hFk := hF k hk2
    generalize hv : fnd (fun j => decide (kA (K j) = kA (K k))) (N - (k + 1)) (k + 1) = v at *
    -- it was the last of its word
    have last : v = none → kA (K k) = (a : Int) → (lnd (fun j => decide (kA (K j) = (a : Int))) N).map cf = some (cf k) := fun z ea => by
      rw [lnd_of (k := k) N hk2 (decide_eq_true ea) (fun j h1 h2 => by
        have := fnd_no _ _ (hv.trans z) j (by omega) (by omega)
        rw [← ea]
        exact this)]
      rfl
    have notl : ¬ (v = none ∧ kA (K k) = (a : Int)) → ∀ y, (lnd (fun j => decide (kA (K j) = (a : Int))) N).map cf = some y → ¬ y = cf k := fun z y ey eyk => by
      obtain ⟨m, em, emy⟩ := Option.map_eq_some_iff.mp ey
      obtain ⟨m1, m2⟩ := lnd_b _ em
      have mk : m = k := Classical.byContradiction fun ne => by
        have := po.2 (2 + m) (2 + k) _ _ (by omega) (by omega) (by omega) ((sR_kp (by omega)).trans (hk m m1)) s1
        rw [emy, eyk] at this
        omega
      rw [mk] at em m2
      have ea : kA (K k) = (a : Int) := of_decide_eq_true m2
      refine z ⟨?_, ea⟩
      rw [← hv]
      refine fnd_all _ _ (fun j h1 h2 => ?_)
      have := lnd_no _ em j (by omega) (by omega)
      rw [ea]
      exact this
    by_cases z : v = none ∧ kA (K k) = (a : Int)
    · have e1 := last z.1 z.2
      rw [z.1, rx _ e1]
      show some c = Option.map (fun k => if k = N then c else cf k) (if kA (K k) = (a : Int) then some N else none)
      rw [if_pos z.2]
      show some c = some (if N = N then c else cf N)
      rw [if_pos rfl]
    · have nl := notl z
      rw [f3 (cf k) 8 (by omega) (by omega) (by omega) (by omega) (fun _ => by omega) (fun y ey q => nl y ey q.1.symm), hFk]
      cases v with
      | some y =>
        show some (cf y) = some (if y = N then c else cf y)
        rw [if_neg (by have := bd y rfl; omega)]
      | none =>
        have ne : ¬ kA (K k) = (a : Int) := fun q => z ⟨rfl, q⟩
        show none = Option.map (fun k => if k = N then c else cf k) (if kA (K k) = (a : Int) then some N else none)
        rw [if_neg ne]
        rfl
theorem kp_fl {c : Nat} {a b : Nat} (hcc : isCl c) (hK : ∀ k, k < N → stC (cf k)) (hch : isCl hc) (h60 : ∀ b : Nat, b < 200 → gR σ 60 b = (fnd (fun j => decide (kA (K j) = (b : Int))) N 0).map cf ∧ gR σ 61 b = (lnd (fun j => decide (kA (K j) = (b : Int))) N).map cf) (fr : kpq τ σ c hc N a ((lnd (fun j => decide (kA (K j) = (a : Int))) N).map cf))
    (r1 : gR τ 61 a = some c) (r0 : (lnd (fun j => decide (kA (K j) = (a : Int))) N).map cf = none → gR τ 60 a = some c) (ha : kA x = (a : Int)) (hb : b < 200) : gR τ 60 b = (fnd (fun j => decide (kA (upK K N x j) = (b : Int))) (N + 1) 0).map (fun k => if k = N then c else cf k) ∧ gR τ 61 b = (lnd (fun j => decide (kA (upK K N x j) = (b : Int))) (N + 1)).map (fun k => if k = N then c else cf k) := by
  obtain ⟨f1, f2, f3, f4⟩ := fr
  unfold isCl at hcc hch
  have nx : ∀ y, (lnd (fun j => decide (kA (K j) = (a : Int))) N).map cf = some y → ¬ y = 60 ∧ ¬ y = 61 := fun y e => by
    obtain ⟨m, em, emy⟩ := Option.map_eq_some_iff.mp e
    have := hK m (lnd_b _ em).1
    omega
  have b1 : ∀ y, fnd (fun j => decide (kA (K j) = (b : Int))) N 0 = some y → y < N := fun y z => by
    have := fnd_b _ _ z
    omega
  have b2' : ∀ y, lnd (fun j => decide (kA (K j) = (b : Int))) N = some y → y < N := fun y z => (lnd_b _ z).1
  obtain ⟨h0, h1⟩ := h60 b hb
  rw [kf_f ha, kf_l ha]
  have fl := fnd_lnd (P := fun j => decide (kA (K j) = (a : Int))) N
  by_cases e : a = b
  · subst e
    rw [if_pos rfl, if_pos rfl]
    refine ⟨?_, ?_⟩
    · cases hv : fnd (fun j => decide (kA (K j) = (a : Int))) N 0 with
      | none =>
        show gR τ 60 a = some (if N = N then c else cf N)
        rw [if_pos rfl]
        refine r0 ?_
        rw [fl.mp hv]
        rfl
      | some y =>
        show gR τ 60 a = some (if y = N then c else cf y)
        rw [if_neg (by have := b1 y hv; omega)]
        have ln : ¬ (lnd (fun j => decide (kA (K j) = (a : Int))) N).map cf = none := fun z => by
          rw [Option.map_eq_none_iff] at z
          rw [fl.mpr z] at hv
          cases hv
        rw [f3 60 a (by omega) (by omega) (by omega) (by omega) (fun z => absurd z ln) (fun y' e => by have := nx y' e; omega), h0, hv]
        rfl
    · show gR τ 61 a = some (if N = N then c else cf N)
      rw [if_pos rfl]
      exact r1
  · have e' : ¬ (a : Int) = (b : Int) := by omega
    rw [if_neg e', if_neg e', f3 60 b (by omega) (by omega) (by omega) (by omega) (fun _ => by omega) (fun y' z => by have := nx y' z; omega), f3 61 b (by omega) (by omega) (by omega) (by omega) (fun _ => by omega) (fun y' z => by have := nx y' z; omega), h0, h1]
    refine ⟨?_, ?_⟩
    · cases hv : fnd (fun j => decide (kA (K j) = (b : Int))) N 0 with
      | none => rfl
      | some y =>
        show some (cf y) = some (if y = N then c else cf y)
        rw [if_neg (by have := b1 y hv; omega)]
    · cases hv : lnd (fun j => decide (kA (K j) = (b : Int))) N with
      | none => rfl
      | some y =>
        show some (cf y) = some (if y = N then c else cf y)
        rw [if_neg (by have := b2' y hv; omega)]
end CKPW
