/-! ===== THE WALK, as such ===== -/
/-- a state that is kept: at, the one before (-1: none), far, ways, longest -/
abbrev KT : Type := ST × Int × Int × Int × Int × Int
abbrev kS (x : KT) : ST := x.1
abbrev kA (x : KT) : Int := x.2.1
abbrev kB (x : KT) : Int := x.2.2.1
abbrev kF (x : KT) : Int := x.2.2.2.1
abbrev kW (x : KT) : Int := x.2.2.2.2.1
abbrev kL (x : KT) : Int := x.2.2.2.2.2
/-- one that waits: at, the latest kept, far -/
abbrev WT : Type := ST × Int × Nat × Int
/-- now, here, latest, far, gone, newest TAG; kept; waiting; most that waited, most frames, what was known ahead of a word -/
abbrev WK : Type := (ST × Int × Nat × Int × Int × Int) × (Nat × (Nat → KT)) × (Nat × (Nat → WT)) × Int × Int × (Int → Option ST)
abbrev yS (w : WK) : ST := w.1.1
abbrev yA (w : WK) : Int := w.1.2.1
abbrev yK (w : WK) : Nat := w.1.2.2.1
abbrev yF (w : WK) : Int := w.1.2.2.2.1
abbrev yG (w : WK) : Int := w.1.2.2.2.2.1
abbrev yT (w : WK) : Int := w.1.2.2.2.2.2
abbrev yNn (w : WK) : Nat := w.2.1.1
abbrev yH (w : WK) : Nat → KT := w.2.1.2
abbrev yM (w : WK) : Nat := w.2.2.1.1
abbrev yW (w : WK) : Nat → WT := w.2.2.1.2
def upK (K : Nat → KT) (k : Nat) (x : KT) : Nat → KT := fun j => if j = k then x else K j
/-- a way behind k is over, of so many instructions -/
def ovrK (K : Nat → KT) (k : Nat) (n : Int) : Nat → KT := upK K k (kS (K k), kA (K k), kB (K k), kF (K k), kW (K k) - 1, if kL (K k) < n then n else kL (K k))
def cloK : Nat → (Nat → KT) → Nat → (Nat → KT)
  | 0, K, _ => K
  | f + 1, K, k => if kW (K k) = 0 ∧ 0 ≤ kB (K k) then cloK f (ovrK K (kB (K k)).toNat (kF (K k) + kL (K k))) (kB (K k)).toNat else K
def endK (K : Nat → KT) (k : Nat) (n : Int) : Nat → KT := cloK 250 (ovrK K k n) k
/-- the first one there that covers -/
def metK (w : WK) : Option Nat := (List.range (yNn w)).find? fun k => decide (kA (yH w k) = yA w) && covS (kS (yH w k)) (yS w)
/-- a fault, whether the way is covered, what is then -/
def meeK (w : WK) : Int × Bool × WK := match metK w with
  | some k => if 0 < kW (yH w k) then (11, false, w) else (0, true, (w.1, (yNn w, endK (yH w) (yK w) (yF w + kL (yH w k))), w.2.2))
  | none => if yNn w = 250 then (12, false, w) else (0, false, ((yS w, yA w, yNn w, 0, yG w, yT w), (yNn w + 1, upK (yH w) (yNn w) (yS w, yA w, (yK w : Int), yF w, 1, 0)), w.2.2))
/-- an instruction: the fault, whether the way ends -/
noncomputable def insK (E : EV) (p : Int → B64) (w : WK) : Int × Bool × WK :=
  if yG w = 4000 then (12, false, w)
  else
    let r := stpJ E (yS w) (yA w) (p (yA w)) (p (yA w + 1)) (yT w)
    let x := (fun i => if i = yA w then some (yS w) else w.2.2.2.2.2 i : Int → Option ST)
    if ¬ r.1 = 0 then (r.1, false, ((yS w, yA w, yK w, yF w + 1, yG w + 1, yT w), w.2.1, w.2.2.1, w.2.2.2.1, w.2.2.2.2.1, x))
    else match r.2.1, r.2.2.1 with
      | some (n, S), none => (0, false, ((S, n, yK w, yF w + 1, yG w + 1, r.2.2.2), w.2.1, w.2.2.1, w.2.2.2.1, max w.2.2.2.2.1 (sF S : Int), x))
      | some (n, S), some (g, S2) =>
        if yM w = 60 then (12, false, ((yS w, yA w, yK w, yF w + 1, yG w + 1, yT w), w.2.1, w.2.2.1, w.2.2.2.1, w.2.2.2.2.1, x))
        else (0, false, ((S, n, yK w, yF w + 1, yG w + 1, r.2.2.2), (yNn w, upK (yH w) (yK w) (kS (yH w (yK w)), kA (yH w (yK w)), kB (yH w (yK w)), kF (yH w (yK w)), kW (yH w (yK w)) + 1, kL (yH w (yK w)))), (yM w + 1, fun j => if j = yM w then (S2, g, yK w, yF w + 1) else yW w j), max w.2.2.2.1 ((yM w : Int) + 1), w.2.2.2.2.1, x))
      | none, _ => (0, true, ((yS w, yA w, yK w, yF w + 1, yG w + 1, r.2.2.2), (yNn w, endK (yH w) (yK w) (yF w + 1)), w.2.2.1, w.2.2.2.1, w.2.2.2.2.1, x))
/-- the one that waits last goes on -/
def popK (w : WK) : WK := (((yW w (yM w - 1)).1, (yW w (yM w - 1)).2.1, (yW w (yM w - 1)).2.2.1, (yW w (yM w - 1)).2.2.2, yG w, yT w), w.2.1, (yM w - 1, yW w), w.2.2.2)
/-- a fault, whether the walk is over -/
noncomputable def itrK (E : EV) (p : Int → B64) (J : Int → Bool) (first : Bool) (w : WK) : Int × Bool × WK :=
  let m := if J (yA w) = true ∧ first = false then meeK w else (0, false, w)
  if ¬ m.1 = 0 then (m.1, false, m.2.2)
  else
    let s := if m.2.1 = true then (0, true, m.2.2) else insK E p m.2.2
    if ¬ s.1 = 0 then (s.1, false, s.2.2)
    else if s.2.1 = true then (if yM s.2.2 = 0 then (0, true, s.2.2) else (0, false, popK s.2.2))
    else (0, false, s.2.2)
def begK (S : ST) : WK := ((S, 0, 0, 0, 0, 0), (1, fun _ => (S, 0, -1, 0, 1, 0)), (0, fun _ => (S, 0, 0, 0)), 0, 1, fun _ => none)
/-- the walk: a fault and what is then -/
noncomputable def wlkK (E : EV) (p : Int → B64) (J : Int → Bool) : Nat → Bool → WK → Option (Int × WK)
  | 0, _, _ => none
  | n + 1, first, w => if ¬ (itrK E p J first w).1 = 0 then some ((itrK E p J first w).1, (itrK E p J first w).2.2) else if (itrK E p J first w).2.1 = true then some (0, (itrK E p J first w).2.2) else wlkK E p J n false (itrK E p J first w).2.2
/-! runs -/
section RN
variable {W : Type} {B : WB W} {H : WH W} {E : EV} {p : Int → B64} {tk : W → W}
/-- a run's step: it is counted, then made -/
noncomputable def stp1 (B : WB W) (H : WH W) (E : EV) (p : Int → B64) (tk : W → W) (c : TC W) : TR W := stpT B H E (cP c, cN c, cR c, cS c, cB c, tk (cW c)) (p (cP c)) (p (cP c + 1))
def endP (B : WB W) (k : Nat) (c : TC W) : Prop := (k = 1 ∨ k = 2) ∧ (k = 1 → (rdR c 0).1 = 0 ∧ cN c = 1) ∧ ∀ i, i < 64 → B.2.2.2.1 (cW c) i = false
/-- within n steps the run is over, or it comes to Q in n steps -/
def rch (B : WB W) (H : WH W) (E : EV) (p : Int → B64) (tk : W → W) : Nat → (TC W → Prop) → TC W → Prop
  | 0, Q, c => Q c
  | n + 1, Q, c => ∃ k c', stp1 B H E p tk c = some (k, c') ∧ (k = 0 → rch B H E p tk n Q c') ∧ (¬ k = 0 → endP B k c')
theorem rch_mono {Q R : TC W → Prop} (h : ∀ c, Q c → R c) : ∀ (n : Nat) (c : TC W), rch B H E p tk n Q c → rch B H E p tk n R c := by
  intro n
  induction n with
  | zero => intro c q; exact h c q
  | succ n ih =>
    intro c q
    obtain ⟨k, c', e, a, b⟩ := q
    exact ⟨k, c', e, fun k0 => ih c' (a k0), b⟩
theorem rch_add {Q : TC W → Prop} : ∀ (m n : Nat) (c : TC W), rch B H E p tk m (rch B H E p tk n Q) c → rch B H E p tk (m + n) Q c := by
  intro m
  induction m with
  | zero => intro n c q; rw [Nat.zero_add]; exact q
  | succ m ih =>
    intro n c q
    obtain ⟨k, c', e, a, b⟩ := q
    rw [show m + 1 + n = (m + n) + 1 by omega]
    exact ⟨k, c', e, fun k0 => ih n c' (a k0), b⟩
theorem rch_or {Q R : TC W → Prop} : ∀ (n : Nat) (c : TC W), rch B H E p tk n (fun c => Q c ∨ R c) c → rch B H E p tk n Q c ∨ rch B H E p tk n R c := by
  intro n
  induction n with
  | zero => intro c q; exact q
  | succ n ih =>
    intro c q
    obtain ⟨k, c', e, a, b⟩ := q
    by_cases k0 : k = 0
    · rcases ih c' (a k0) with i | i
      · exact Or.inl ⟨k, c', e, fun _ => i, b⟩
      · exact Or.inr ⟨k, c', e, fun _ => i, b⟩
    · exact Or.inl ⟨k, c', e, fun q => absurd q k0, b⟩
abbrev fin (B : WB W) (H : WH W) (E : EV) (p : Int → B64) (tk : W → W) (n : Nat) (c : TC W) : Prop := rch B H E p tk n (fun _ => False) c
theorem fin_le {m n : Nat} {c : TC W} (h : fin B H E p tk m c) (hn : m ≤ n) : fin B H E p tk n c := by
  have := rch_add m (n - m) c (Q := fun _ => False) (rch_mono (fun _ q => q.elim) m c h)
  rwa [show m + (n - m) = n by omega] at this
/-- a run stands where a state tells -/
def gC (B : WB W) (E : EV) (S : ST) (a : Int) (c : TC W) : Prop := cP c = a ∧ ∃ th tp, gS B E th tp S c
theorem stp_c (hB : okB B) (hH : okH B H) (hE : okE E) (hT : ∀ w, B.1 (tk w) = B.1 w ∧ B.2.2.2.1 (tk w) = B.2.2.2.1 w ∧ B.2.2.2.2 (tk w) = B.2.2.2.2 w) {S : ST} {a t : Int} {c : TC W} (ho : okS E t S) (hw : okI (p a) (p (a + 1))) (h : gC B E S a c) (hf : (stpJ E S a (p a) (p (a + 1)) t).1 = 0) :
    rch B H E p tk 1 (fun c' => (∃ n S', (stpJ E S a (p a) (p (a + 1)) t).2.1 = some (n, S') ∧ gC B E S' n c') ∨ ∃ n S', (stpJ E S a (p a) (p (a + 1)) t).2.2.1 = some (n, S') ∧ gC B E S' n c') c := by
  obtain ⟨h1, th, tp, g⟩ := h
  have g' : gS B E th tp S (cP c, cN c, cR c, cS c, cB c, tk (cW c)) := gS_same g ⟨⟨rfl, rfl, rfl, rfl⟩, hT _⟩ rfl
  obtain ⟨⟨k, c', e, r⟩, -⟩ := stp_g (H := H) hB hH hE g' ho hw (by exact h1) hf
  refine ⟨k, c', ?_, fun k0 => ?_, fun k0 => ?_⟩
  · unfold stp1
    rw [h1] at e ⊢
    exact e
  · rcases r with ⟨_, r⟩ | ⟨r, _⟩
    · rcases r with ⟨n, S', q1, q2, q3⟩ | ⟨n, S', q1, q2, q3⟩
      · exact Or.inl ⟨n, S', q1, q2, q3⟩
      · exact Or.inr ⟨n, S', q1, q2, q3⟩
    · exfalso; omega
  · rcases r with ⟨r, _⟩ | ⟨r1, r2, r3⟩
    · exact absurd r k0
    · exact ⟨r1, fun q => (r2 q).2, r3⟩
end RN
