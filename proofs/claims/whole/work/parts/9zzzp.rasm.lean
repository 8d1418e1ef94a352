/-! ===== the reference: assemble ===== -/
/-- a word leads so far -/
def lkW (x : Int) (w : B64) (b : Int) : B64 := if x = 0 then (w &&& iL (-4294901761)) ||| lShl (iL b &&& iL 65535) 16 else (w &&& iL 4294967295) ||| lShl (iL b) 32
abbrev lkB' (s : RD) (u l : Nat) : Int := w32 (w32 (((s.1.2 l).2 : Int) - ((s.2.1.2 u).2.1 : Int)) - 1)
/-- the links, from u on -/
def pPlc (t : Nat → Int) (T : Nat → TK) (s : RD) : Nat → Nat → (Nat → B64) → Int ⊕ (Nat → B64)
  | 0, _, W => .inr W
  | f + 1, u, W => match labX t T s (s.2.1.2 u).1 with
    | none => .inl (tB (T (s.2.1.2 u).1) : Int)
    | some l => pPlc t T s f (u + 1) (fun i => if i = (s.2.1.2 u).2.1 then lkW (s.2.1.2 u).2.2 (W i) (lkB' s u l) else W i)
def rd0 : RD := ((0, fun _ => (0, 0)), (0, fun _ => (0, 0, 0)), (0, fun _ => 0), 0)
/-- a text is read: how many words, which -/
noncomputable def pAsm (t : Nat → Int) (n : Nat) : Int ⊕ (Nat × (Nat → B64)) := bS (pLns t (tks t n) (n + 1) rd0) fun s => bS (pPlc t (tks t n) s s.2.1.1 0 s.2.2.1.2) fun W => if s.2.2.1.1 = 0 then .inl (n : Int) else .inr (s.2.2.1.1, W)
/-- a slot's words: n of W -/
def newC (σ : MS) (x M : Nat) (W : Nat → B64) (τ : MS) : Prop := gI τ 84 x = (M : Int) ∧ gI τ 85 x = 0 ∧ (∀ i, i < M → gL τ 83 (200 * x + i) = W i) ∧ (∀ k s, ¬ (k = 80 ∧ (s = 1 ∨ (7 ≤ s ∧ s ≤ 37))) → ¬ (87 ≤ k ∧ k ≤ 93) → ¬ ((k = 84 ∨ k = 85) ∧ s = x) → gI τ k s = gI σ k s) ∧ (∀ k s, ¬ (k = 80 ∧ (s = 12 ∨ s = 32)) → ¬ k = 86 → ¬ (k = 83 ∧ 200 * x ≤ s ∧ s < 200 * x + M) → gL τ k s = gL σ k s) ∧ τ.2.2 = σ.2.2 ∧ gI τ 80 1 = 0
/-- nothing but the reader's corner and the tape -/
def oldC (σ τ : MS) : Prop := (∀ k s, ¬ (k = 80 ∧ (s = 1 ∨ (7 ≤ s ∧ s ≤ 37))) → ¬ (87 ≤ k ∧ k ≤ 93) → gI τ k s = gI σ k s) ∧ (∀ k s, ¬ (k = 80 ∧ (s = 12 ∨ s = 32)) → ¬ k = 86 → gL τ k s = gL σ k s) ∧ τ.2.2 = σ.2.2 ∧ gI τ 80 1 = 0
section RAS
variable {t : Nat → Int} {n i j k m u M X : Nat} {σ τ ρ υ : MS} {c d e o w x x1 x2 x3 x4 y f g B : Int} {v : B64} {T : TK} {s : RD} {W : Nat → B64}
/-- what stays while links are placed -/
abbrev plR (t : Nat → Int) (n : Nat) (s : RD) (W : Nat → B64) (τ σ : MS) : Prop := (∀ k s', gI τ k s' = gI σ k s') ∧ (∀ k s', ¬ k = 86 → gL τ k s' = gL σ k s') ∧ τ.2.2 = σ.2.2 ∧ ∀ i, i < s.2.2.1.1 → gL τ 86 i = W i
theorem ioN_1 {l : Nat} : 0 ≤ ioN (some l) := by
  show (0 : Int) ≤ (l : Int)
  omega
theorem fnd_lt {P : Nat → Bool} : ∀ f m : Nat, ∀ l, fnd P f m = some l → l < m + f := by
  intro f
  induction f with
  | zero => intro m l h; cases h
  | succ f ih =>
    intro m l h
    have h : (if P m = true then some m else fnd P f (m + 1)) = some l := h
    by_cases c : P m = true
    · rw [if_pos c] at h
      have := Option.some.inj h
      omega
    · rw [if_neg c] at h
      have := ih (m + 1) l h
      omega
theorem T367 (h : rTx σ t n) (h14 : gI σ 80 14 = -1) (hr : rdS t n σ s) (hn : s.1.1 ≤ 1399) (hu : u < s.2.1.1) (hu2 : u < 204) (hM : (s.2.1.2 u).2.1 < s.2.2.1.1) (hM2 : s.2.2.1.1 ≤ 200) : okc (MM 367 [mR (some 80), mI (u : Int)] σ) none (fun τ => match labX t (tks t n) s (s.2.1.2 u).1 with
    | none => τ = sI σ 80 14 (tB (tks t n (s.2.1.2 u).1) : Int)
    | some l => τ = sL σ 86 (s.2.1.2 u).2.1 (lkW (s.2.1.2 u).2.2 (s.2.2.1.2 (s.2.1.2 u).2.1) (lkB' s u l))) := by
  obtain ⟨a1, a2⟩ := hr.1
  obtain ⟨b1, b2⟩ := hr.2.1
  obtain ⟨c1, c2⟩ := hr.2.2
  obtain ⟨d1, d2, d3, d4⟩ := b2 u hu
  have t65 := T365 (k := (s.2.1.2 u).1) h hr (by omega)
  rw [M367, e367_0, if_pos (g91 hu2), if_pos (g92 hu2), Int.toNat_natCast, d2, d3, t65]
  simp only [Option.bind_some, Option.toList_some, Option.toList_none, List.cons_append, List.nil_append]
  rw [e367_16]
  cases hl : labX t (tks t n) s (s.2.1.2 u).1 with
  | none =>
    have nn : ¬ 0 ≤ ioN none := by decide
    rw [if_neg nn, if_pos (g91 hu2), Int.toNat_natCast, d2, T359g h14]
    simp only [Option.bind_some, Option.toList_some, Option.toList_none, List.cons_append, List.nil_append]
    rw [e367_31]
    exact okc_s rfl
  | some l =>
    have ll : l < s.1.1 := by
      have := fnd_lt _ _ l hl
      omega
    obtain ⟨f1, f2, f3⟩ := a2 l ll
    have el : ioN (some l) = (l : Int) := rfl
    have p86 := g86 (σ := σ) (show (s.2.1.2 u).2.1 < 204 by omega)
    rw [if_pos ioN_1, el, if_pos (g90 hu2), Int.toNat_natCast, d1, if_pos p86, if_pos (g89 (by omega)), if_pos (g90 hu2), if_pos (g90 hu2), if_pos (g93 hu2), d4, Int.toNat_natCast, Int.toNat_natCast, f3, c2 _ hM, e367_111, e367_111, Option.getD_some, if_pos p86, if_pos p86, Int.toNat_natCast]
    show okc _ none (fun τ => τ = sL σ 86 (s.2.1.2 u).2.1 (lkW (s.2.1.2 u).2.2 (s.2.2.1.2 (s.2.1.2 u).2.1) (lkB' s u l)))
    unfold lkW
    by_cases c : (s.2.1.2 u).2.2 = 0
    · rw [if_pos c, if_pos c]
      exact okc_s rfl
    · rw [if_neg c, if_neg c]
      exact okc_s rfl
/-- links are led to their places -/
theorem L366b (h : rTx σ t n) (h14 : gI σ 80 14 = -1) (hr : rdS t n σ s) (hn : s.1.1 ≤ 1399) (hM2 : s.2.2.1.1 ≤ 200) (hK : s.2.1.1 ≤ 200) (hM : ∀ u, u < s.2.1.1 → (s.2.1.2 u).2.1 < s.2.2.1.1) {P : MS → Prop} {v : Option MV} (bad : ∀ (e : Int) (i : Nat) (τ : MS), pPlc t (tks t n) s s.2.1.1 0 s.2.2.1.2 = .inl e → 0 ≤ e → gI τ 80 14 = e → (∀ k s', ¬ (k = 80 ∧ s' = 14) → gI τ k s' = gI σ k s') → (∀ k s', ¬ k = 86 → gL τ k s' = gL σ k s') → τ.2.2 = σ.2.2 → okc (RR (lkB tb366) (B366_139, [some (mR (some 80)), some (mI x1), some (mI (i : Int))], [], τ)) v P) (well : ∀ (W : Nat → B64) (i : Nat) (τ : MS), pPlc t (tks t n) s s.2.1.1 0 s.2.2.1.2 = .inr W → plR t n s W τ σ → okc (RR (lkB tb366) (B366_139, [some (mR (some 80)), some (mI x1), some (mI (i : Int))], [], τ)) v P) :
    ∀ (f u : Nat) (W : Nat → B64) (τ : MS), u + f = s.2.1.1 → pPlc t (tks t n) s f u W = pPlc t (tks t n) s s.2.1.1 0 s.2.2.1.2 → plR t n s W τ σ → okc (RR (lkB tb366) (B366_113, [some (mR (some 80)), some (mI x1), some (mI (u : Int))], [], τ)) v P := by
  intro f
  induction f with
  | zero =>
    intro u W τ z e p
    have g25 : gI τ 80 25 = (s.2.1.1 : Int) := (p.1 _ _).trans hr.2.1.1
    rw [e366_113, g25, if_pos (by omega)]
    exact well W u τ e.symm p
  | succ f ih =>
    intro u W τ z e p
    have g25 : gI τ 80 25 = (s.2.1.1 : Int) := (p.1 _ _).trans hr.2.1.1
    have g14 : gI τ 80 14 = -1 := (p.1 _ _).trans h14
    have hT : rTx τ t n := ⟨(p.1 _ _).trans h.1, h.2.1, fun j => (p.1 _ _).trans (h.2.2.1 j), h.2.2.2⟩
    have rS : rdS t n τ (s.1, s.2.1, (s.2.2.1.1, W), s.2.2.2) := by
      obtain ⟨⟨a1, a2⟩, ⟨b1, b2⟩, ⟨c1, c2⟩⟩ := hr
      refine ⟨⟨(p.1 _ _).trans a1, fun l hl => ?_⟩, ⟨(p.1 _ _).trans b1, fun u hu => ?_⟩, ⟨(p.1 _ _).trans c1, p.2.2.2⟩⟩
      · obtain ⟨d1, d2, d3⟩ := a2 l hl
        exact ⟨(p.1 _ _).trans d1, (p.1 _ _).trans d2, (p.1 _ _).trans d3⟩
      · obtain ⟨d1, d2, d3, d4⟩ := b2 u hu
        exact ⟨(p.1 _ _).trans d1, (p.1 _ _).trans d2, (p.1 _ _).trans d3, (p.1 _ _).trans d4⟩
    have hu : u < s.2.1.1 := by omega
    have t67 := T367 (s := (s.1, s.2.1, (s.2.2.1.1, W), s.2.2.2)) (u := u) hT g14 rS hn hu (by omega) (hM u hu) hM2
    have nl : ¬ (s.2.1.1 : Int) ≤ (u : Int) := by omega
    have lu : u < 100000 := by omega
    rw [e366_113, g25, if_neg nl, T358g g14]
    simp only [Option.bind_some, Option.toList_some, Option.toList_none, List.cons_append, List.nil_append]
    rw [e366_125, if_neg n10]
    refine okc_b t67 fun υ q => ?_
    show okc (RR (lkB tb366) (B366_133, [some (mR (some 80)), some (mI x1), some (mI (u : Int))], [], υ)) v P
    rw [e366_133, w32_s1 lu]
    have eu : pPlc t (tks t n) s (f + 1) u W = (match labX t (tks t n) s (s.2.1.2 u).1 with
        | none => .inl (tB (tks t n (s.2.1.2 u).1) : Int)
        | some l => pPlc t (tks t n) s f (u + 1) (fun i => if i = (s.2.1.2 u).2.1 then lkW (s.2.1.2 u).2.2 (W i) (lkB' s u l) else W i)) := rfl
    have lx : labX t (tks t n) (s.1, s.2.1, (s.2.2.1.1, W), s.2.2.2) (s.2.1.2 u).1 = labX t (tks t n) s (s.2.1.2 u).1 := rfl
    cases hl : labX t (tks t n) s (s.2.1.2 u).1 with
    | none =>
      rw [hl] at lx
      have q : υ = sI τ 80 14 (tB (tks t n (s.2.1.2 u).1) : Int) := by
        rw [show (s.1, s.2.1, (s.2.2.1.1, W), s.2.2.2).2.1.2 u = s.2.1.2 u from rfl, lx] at q
        exact q
      have eu2 : pPlc t (tks t n) s (f + 1) u W = .inl (tB (tks t n (s.2.1.2 u).1) : Int) := by
        rw [eu, hl]
      have g : gI υ 80 14 = (tB (tks t n (s.2.1.2 u).1) : Int) := by rw [q, fS_]
      have g25' : gI υ 80 25 = (s.2.1.1 : Int) := by rw [q, fO_ (by decide)]; exact g25
      have b139 := bad (tB (tks t n (s.2.1.2 u).1) : Int) (u + 1) υ (by rw [← e, eu2]) (by omega) g (fun k s' z => by rw [q, gI_sI, if_neg z]; exact p.1 _ _) (fun k s' z => by rw [q]; exact p.2.1 _ _ z) (by rw [q]; exact p.2.2.1)
      rw [e366_113, g25']
      by_cases cl : (s.2.1.1 : Int) ≤ ((u + 1 : Nat) : Int)
      · rw [if_pos cl]
        exact b139
      · rw [if_neg cl, T358b (by rw [g]; omega)]
        simp only [Option.bind_some, Option.toList_some, Option.toList_none, List.cons_append, List.nil_append]
        rw [e366_125, if_pos y00]
        exact b139
    | some l =>
      rw [hl] at lx
      have q : υ = sL τ 86 (s.2.1.2 u).2.1 (lkW (s.2.1.2 u).2.2 (W (s.2.1.2 u).2.1) (lkB' s u l)) := by
        rw [show (s.1, s.2.1, (s.2.2.1.1, W), s.2.2.2).2.1.2 u = s.2.1.2 u from rfl, lx] at q
        exact q
      have eu2 : pPlc t (tks t n) s (f + 1) u W = pPlc t (tks t n) s f (u + 1) (fun i => if i = (s.2.1.2 u).2.1 then lkW (s.2.1.2 u).2.2 (W i) (lkB' s u l) else W i) := by
        rw [eu, hl]
      refine ih (u + 1) _ υ (by omega) (eu2.symm.trans e) ⟨fun k s' => by rw [q]; exact p.1 _ _, fun k s' z => by rw [q, gL_sL, if_neg (fun y => z y.1)]; exact p.2.1 _ _ z, by rw [q]; exact p.2.2.1, fun i hi => ?_⟩
      show gL υ 86 i = if i = (s.2.1.2 u).2.1 then lkW (s.2.1.2 u).2.2 (W i) (lkB' s u l) else W i
      rw [q, gL_sL]
      by_cases ei : i = (s.2.1.2 u).2.1
      · rw [if_pos ⟨rfl, ei⟩, if_pos ei, ei]
      · rw [if_neg (fun z => ei z.2), if_neg ei]
        exact p.2.2.2 i hi
/-- words come to the slot -/
theorem L366c (hX : X < 8) (hM : M ≤ 200) (h0 : gI σ 80 16 = (M : Int)) (hW : ∀ i, i < M → gL σ 86 i = W i) : ∀ (f i : Nat) (τ : MS), i + f = M → (∀ k s', gI τ k s' = gI σ k s') → (∀ k s', gL τ k s' = if k = 83 ∧ 200 * X ≤ s' ∧ s' < 200 * X + i then W (s' - 200 * X) else gL σ k s') → τ.2.2 = σ.2.2 → okc (RR (lkB tb366) (B366_178, [some (mR (some 80)), some (mI (X : Int)), some (mI (i : Int))], [], τ)) (some (mI (M : Int))) (fun υ => gI υ 84 X = (M : Int) ∧ gI υ 85 X = 0 ∧ (∀ k s', ¬ ((k = 84 ∨ k = 85) ∧ s' = X) → gI υ k s' = gI σ k s') ∧ (∀ k s', gL υ k s' = if k = 83 ∧ 200 * X ≤ s' ∧ s' < 200 * X + M then W (s' - 200 * X) else gL σ k s') ∧ υ.2.2 = σ.2.2) := by
  intro f
  induction f with
  | zero =>
    intro i τ z g1 g2 g3
    have z : i = M := by omega
    subst z
    have e16 : gI τ 80 16 = (i : Int) := (g1 _ _).trans h0
    have e16' : gI (sI (sI τ 84 X (i : Int)) 85 X (0 % 2)) 80 16 = (i : Int) := by rw [gI_sI, if_neg (by omega), gI_sI, if_neg (by omega)]; exact e16
    rw [e366_178, e16, if_pos (by omega), if_pos (show Option.isSome (some 84) = true ∧ ab τ 3 84 (X : Int) by rw [g_84]; omega), if_pos (show Option.isSome (some 85) = true ∧ ab τ 2 85 (X : Int) by rw [g_85]; omega), Int.toNat_natCast, e16']
    refine okc_s ⟨?_, ?_, fun k s' z => ?_, fun k s' => g2 k s', g3⟩
    · rw [gI_sI, if_neg (by omega), gI_sI, if_pos ⟨rfl, rfl⟩]
    · rw [gI_sI, if_pos ⟨rfl, rfl⟩]; decide
    · rw [gI_sI, if_neg (by omega), gI_sI, if_neg (by omega)]
      exact g1 _ _
  | succ f ih =>
    intro i τ z g1 g2 g3
    have e16 : gI τ 80 16 = (M : Int) := (g1 _ _).trans h0
    have l1 : ¬ (M : Int) ≤ (i : Int) := by omega
    have l2 : i < 100000 := by omega
    have l3 : i < M := by omega
    have b83 : Option.isSome (some 83) = true ∧ ab τ 4 83 ((200 * X + i : Nat) : Int) := by rw [g_83]; omega
    have wx : w32 (200 * (X : Int)) = ((200 * X : Nat) : Int) := by
      rw [w32_i (by omega) (by omega)]
      omega
    have b86 : Option.isSome (some 86) = true ∧ ab τ 4 86 (i : Int) := g86 (show i < 204 from Nat.lt_of_lt_of_le l3 (Nat.le_trans hM (by decide)))
    have e86 : gL τ 86 i = W i := by rw [g2, if_neg (fun z => absurd z.1 (by decide))]; exact hW i l3
    have li : 200 * X + i < 100001 := Nat.lt_of_le_of_lt (Nat.add_le_add (Nat.mul_le_mul_left 200 (Nat.le_of_lt hX)) (Nat.le_of_lt (Nat.lt_of_lt_of_le l3 hM))) (by decide)
    rw [e366_178, e16, if_neg l1, if_pos b86, wx, w32_a (a := 200 * X) (b := i) li, if_pos b83, Int.toNat_natCast, Int.toNat_natCast, e86, w32_s1 l2]
    clear wx
    refine ih (i + 1) _ (by omega) (fun k s' => g1 k s') (fun k s' => ?_) g3
    rw [gL_sL, g2]
    by_cases c1 : k = 83 ∧ s' = 200 * X + i
    · rw [if_pos c1, if_pos (by omega), c1.2, Nat.add_sub_cancel_left]
    · rw [if_neg c1]
      by_cases c2 : k = 83 ∧ 200 * X ≤ s' ∧ s' < 200 * X + i
      · rw [if_pos c2, if_pos (by omega)]
      · rw [if_neg c2, if_neg (by omega)]
end RAS
