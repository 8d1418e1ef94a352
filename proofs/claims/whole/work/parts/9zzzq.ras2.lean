/-! ===== the reference: assemble, whole ===== -/
/-- what assemble answers -/
def asV (r : Int ⊕ (Nat × (Nat → B64))) : Int := match r with
  | .inl e => w32 (-10 - e)
  | .inr q => (q.1 : Int)
/-- links tell words that are there -/
def lkM (s : RD) : Prop := ∀ u, u < s.2.1.1 → (s.2.1.2 u).2.1 < s.2.2.1.1
section RAT
variable {t : Nat → Int} {n i j k m u M X : Nat} {σ τ ρ υ : MS} {c d e o w x x1 x2 x3 x4 y f g B : Int} {v : B64} {T : TK} {s s' : RD} {W : Nat → B64}
theorem lkM_u {q : SR × Nat} (h : lkM s) : lkM (updS s q) := by
  have w := snW_b (r := q.1)
  intro u hu
  show ((match q.1.2.2 with
    | none => s.2.1
    | some j => (s.2.1.1 + 1, fun u => if u = s.2.1.1 then (j, s.2.2.1.1, wdO q.1.1.1) else s.2.1.2 u)).2 u).2.1 < s.2.2.1.1 + snW q.1
  have hu : u < (match q.1.2.2 with
    | none => s.2.1
    | some j => (s.2.1.1 + 1, fun u => if u = s.2.1.1 then (j, s.2.2.1.1, wdO q.1.1.1) else s.2.1.2 u)).1 := hu
  cases hq : q.1.2.2 with
  | none =>
    rw [hq] at hu
    have := h u hu
    show (s.2.1.2 u).2.1 < _
    omega
  | some j =>
    rw [hq] at hu
    have hu : u < s.2.1.1 + 1 := hu
    show (if u = s.2.1.1 then (j, s.2.2.1.1, wdO q.1.1.1) else s.2.1.2 u).2.1 < _
    by_cases e : u = s.2.1.1
    · rw [if_pos e]
      show s.2.2.1.1 < _
      omega
    · rw [if_neg e]
      have := h u (by omega)
      omega
theorem lkM_l {T : Nat → TK} (h : lkM s) (e : pLin t T s = .inr s') : lkM s' := by
  unfold pLin at e
  have sta : ∀ s0 : RD, lkM s0 → pSta t T s0 = .inr s' → lkM s' := fun s0 h0 e0 => by
    unfold pSta at e0
    obtain ⟨q, -, h2⟩ := bS_inr e0
    rw [← Sum.inr.inj h2]
    exact lkM_u h0
  rcases ite_or e with ⟨_, e⟩ | ⟨_, e⟩
  · rw [← Sum.inr.inj e]; exact h
  · rcases ite_or e with ⟨_, e⟩ | ⟨_, e⟩
    · split at e
      · cases e
      · rcases ite_or e with ⟨_, e⟩ | ⟨_, e⟩
        · rw [← Sum.inr.inj e]; exact h
        · exact sta (addL s) h e
    · exact sta s h e
/-- lines are read -/
theorem L366a {v : Option MV} {P : MS → Prop} {x1 : Int} : ∀ (f : Nat) (s : RD) (τ : MS), n + 1 ≤ f + tB (tks t n s.2.2.2) → RG τ t n s.2.2.2 → rdS t n τ s → invL (tks t n) s → lkM s → rfa τ σ → (∀ (e : Int) (τ' : MS), pLns t (tks t n) f s = .inl e → 0 ≤ e → gI τ' 80 14 = e → rfa τ' σ → okc (RR (lkB tb366) (B366_111, [some (mR (some 80)), some (mI x1), none], [], τ')) v P) → (∀ (s' : RD) (τ' : MS), pLns t (tks t n) f s = .inr s' → RG τ' t n s'.2.2.2 → rdS t n τ' s' → s'.2.2.1.1 ≤ 200 → s'.2.1.1 ≤ 200 → s'.1.1 ≤ 1399 → lkM s' → rfa τ' σ → okc (RR (lkB tb366) (B366_111, [some (mR (some 80)), some (mI x1), none], [], τ')) v P) → okc (RR (lkB tb366) (B366_46, [some (mR (some 80)), some (mI x1), none], [], τ)) v P := by
  intro f
  induction f with
  | zero =>
    intro s τ hf g r i l fr bad well
    have := tks_le (t := t) (n := n) s.2.2.2
    omega
  | succ f ih =>
    intro s τ hf g r i l fr bad well
    have n4 := g.1.2.1
    have le := tks_le (t := t) (n := n) s.2.2.2
    have eq : pLns t (tks t n) (f + 1) s = if tK (tks t n s.2.2.2) = 0 then .inr s else bS (pLin t (tks t n) s) fun s' => if tK (tks t n s'.2.2.2) = 1 then pLns t (tks t n) f (s'.1, s'.2.1, s'.2.2.1, s'.2.2.2 + 1) else .inr s' := rfl
    rw [eq] at bad well
    rw [e366_46, T358g g.2.2]
    simp only [Option.bind_some, Option.toList_some, Option.toList_none, List.cons_append, List.nil_append]
    rw [e366_50, if_neg n10, RG_9 g]
    by_cases c0 : tK (tks t n s.2.2.2) = 0
    · rw [if_pos c0] at well
      rw [if_pos c0]
      exact well s τ rfl g r i.1 (by have := i.1; have := i.2.1; omega) (by have := i.2.2; omega) l fr
    · rw [if_neg c0] at bad well
      rw [if_neg c0]
      refine okc_b (T368 g r i) fun τ1 p => ?_
      show okc (RR (lkB tb366) (B366_64, [some (mR (some 80)), some (mI x1), none], [], τ1)) v P
      cases hp : pLin t (tks t n) s with
      | inl e =>
        rw [hp] at p bad
        obtain ⟨p1, p2, p3⟩ := p
        have hb : 0 ≤ gI τ1 80 14 := by rw [p2]; exact p3
        rw [e366_64, T358b hb]
        simp only [Option.bind_some, Option.toList_some, Option.toList_none, List.cons_append, List.nil_append]
        rw [e366_68, if_pos y00, e366_86, T358b hb]
        simp only [Option.bind_some, Option.toList_some, Option.toList_none, List.cons_append, List.nil_append]
        rw [e366_90, if_pos y00, e366_46, T358b hb]
        simp only [Option.bind_some, Option.toList_some, Option.toList_none, List.cons_append, List.nil_append]
        rw [e366_50, if_pos y00]
        exact bad e τ1 rfl p3 p2 (rfa_t p1 fr)
      | inr s1 =>
        rw [hp] at p bad well
        obtain ⟨p1, p2, p3⟩ := p
        obtain ⟨i1, i2, i3⟩ := pLin_i i hp c0
        obtain ⟨j1, j2, j3, j4⟩ := i1
        have le1 := tks_le (t := t) (n := n) s1.2.2.2
        have l1 := lkM_l l hp
        have bad : ∀ (e : Int) (τ' : MS), (if tK (tks t n s1.2.2.2) = 1 then pLns t (tks t n) f (s1.1, s1.2.1, s1.2.2.1, s1.2.2.2 + 1) else .inr s1) = .inl e → 0 ≤ e → gI τ' 80 14 = e → rfa τ' σ → okc (RR (lkB tb366) (B366_111, [some (mR (some 80)), some (mI x1), none], [], τ')) v P := bad
        have well : ∀ (s' : RD) (τ' : MS), (if tK (tks t n s1.2.2.2) = 1 then pLns t (tks t n) f (s1.1, s1.2.1, s1.2.2.1, s1.2.2.2 + 1) else .inr s1) = .inr s' → RG τ' t n s'.2.2.2 → rdS t n τ' s' → s'.2.2.1.1 ≤ 200 → s'.2.1.1 ≤ 200 → s'.1.1 ≤ 1399 → lkM s' → rfa τ' σ → okc (RR (lkB tb366) (B366_111, [some (mR (some 80)), some (mI x1), none], [], τ')) v P := well
        rw [e366_64, T358g p3.2.2]
        simp only [Option.bind_some, Option.toList_some, Option.toList_none, List.cons_append, List.nil_append]
        rw [e366_68, if_neg n10, RG_9 p3]
        by_cases c1 : tK (tks t n s1.2.2.2) = 1
        · rw [if_pos c1] at bad well
          rw [if_neg (fun z => z c1)]
          have lt1 := tks_lt (t := t) (n := n) (k := s1.2.2.2) (by rw [c1]; decide)
          have m1 := tks_m1 (t := t) (n := n) (k := s1.2.2.2)
          have m0 := tks_mo (t := t) (n := n) i2
          refine okc_b (A355 p3 (by rw [c1]; decide)) fun τ2 q => ?_
          show okc (RR (lkB tb366) (B366_83, [some (mR (some 80)), some (mI x1), none], [], τ2)) v P
          rw [e366_83]
          exact ih (s1.1, s1.2.1, s1.2.2.1, s1.2.2.2 + 1) τ2 (by show n + 1 ≤ f + tB (tks t n (s1.2.2.2 + 1)); omega) q.2 (rdS_W p2 q.1) ⟨j1, j2, by show 3 * s1.1.1 ≤ tB (tks t n (s1.2.2.2 + 1)); omega⟩ l1 (rfa_t (rfa_W q.1) (rfa_t p1 fr)) bad well
        · have c0' := j4.resolve_left c1
          rw [if_neg c1] at well
          rw [if_pos c1, e366_86, T358g p3.2.2]
          simp only [Option.bind_some, Option.toList_some, Option.toList_none, List.cons_append, List.nil_append]
          rw [e366_90, if_neg n10, RG_9 p3, if_pos c0', e366_46, T358g p3.2.2]
          simp only [Option.bind_some, Option.toList_some, Option.toList_none, List.cons_append, List.nil_append]
          rw [e366_50, if_neg n10, RG_9 p3, if_pos c0']
          exact well s1 τ1 rfl p3 p2 j1 (by omega) (by omega) l1 (rfa_t p1 fr)
theorem T331x : MM 331 [mI x] σ = some (some (mI (b2 (0 ≤ x ∧ x < 8))), σ) := by
  rw [M331, e331_0, e331_14]
  by_cases c1 : x < 0
  · rw [if_pos c1, b2_no (by omega)]
  · rw [if_neg c1]
    by_cases c2 : 8 ≤ x
    · rw [if_pos c2, b2_no (by omega)]
    · rw [if_neg c2, b2_yes (by omega)]
theorem T330 : MM 330 [mR (some 80)] σ = some (some (mI (gI σ 80 1)), sI σ 80 1 0) := by
  rw [M330, e330_0]
theorem T366n (h : ¬ (0 ≤ x ∧ x < 8)) : okc (MM 366 [mR (some 80), mI x] σ) (some (mI (-1))) (oldC σ) := by
  rw [M366, e366_0, T330]
  simp only [Option.bind_some, Option.toList_some, Option.toList_none, List.cons_append, List.nil_append]
  rw [e366_5, T331x, b2_no h]
  simp only [Option.bind_some, Option.toList_some, Option.toList_none, List.cons_append, List.nil_append]
  rw [e366_12, if_neg (fun z => z y00)]
  refine okc_s ⟨fun k s a b => ?_, fun k s a b => rfl, rfl, ?_⟩
  · rw [gI_sI, if_neg (by omega), gI_sI, if_neg (by omega)]
  · rw [fO_ (by decide), fS_]
/-- assemble -/
theorem T366 (hX : X < 8) (h1 : gI σ 80 1 = (n : Int)) (hn : n ≤ 4000) (ht : ∀ j, gI σ 81 j = t j) (hb : ∀ j, -128 ≤ t j ∧ t j < 128) : okc (MM 366 [mR (some 80), mI (X : Int)] σ) (some (mI (asV (pAsm t n)))) (fun τ => oR (pAsm t n) (fun _ => oldC σ τ) (fun q => newC σ X q.1 q.2 τ)) := by
  obtain ⟨ρ, hρ⟩ : ∃ ρ, ρ = sI (sI (sI (sI (sI (sI (sI σ 80 1 0) 80 7 (n : Int)) 80 8 0) 80 14 (-1)) 80 16 0) 80 20 0) 80 25 0 := ⟨_, rfl⟩
  have eo : ∀ k s, ¬ (k = 80 ∧ (s = 1 ∨ s = 7 ∨ s = 8 ∨ s = 14 ∨ s = 16 ∨ s = 20 ∨ s = 25)) → gI ρ k s = gI σ k s := fun k s z => by
    rw [hρ, gI_sI, if_neg (by omega), gI_sI, if_neg (by omega), gI_sI, if_neg (by omega), gI_sI, if_neg (by omega), gI_sI, if_neg (by omega), gI_sI, if_neg (by omega), gI_sI, if_neg (by omega)]
  have r1 : gI ρ 80 1 = 0 := by rw [hρ, fO_ (by decide), fO_ (by decide), fO_ (by decide), fO_ (by decide), fO_ (by decide), fO_ (by decide), fS_]
  have r7 : gI ρ 80 7 = (n : Int) := by rw [hρ, fO_ (by decide), fO_ (by decide), fO_ (by decide), fO_ (by decide), fO_ (by decide), fS_]
  have r8 : gI ρ 80 8 = ((0 : Nat) : Int) := by rw [hρ, fO_ (by decide), fO_ (by decide), fO_ (by decide), fO_ (by decide), fS_]; rfl
  have r14 : gI ρ 80 14 = -1 := by rw [hρ, fO_ (by decide), fO_ (by decide), fO_ (by decide), fS_]
  have r16 : gI ρ 80 16 = 0 := by rw [hρ, fO_ (by decide), fO_ (by decide), fS_]
  have r20 : gI ρ 80 20 = 0 := by rw [hρ, fO_ (by decide), fS_]
  have r25 : gI ρ 80 25 = 0 := by rw [hρ, fS_]
  have eL : ∀ k s, gL ρ k s = gL σ k s := fun k s => by rw [hρ]; rfl
  have e2 : ρ.2.2 = σ.2.2 := by rw [hρ]; rfl
  have hT : rTx ρ t n := ⟨r7, hn, fun j => (eo _ _ (by omega)).trans (ht j), hb⟩
  rw [M366, e366_0, T330, h1]
  simp only [Option.bind_some, Option.toList_some, Option.toList_none, List.cons_append, List.nil_append]
  rw [e366_5, T331x, b2_yes ⟨by omega, by omega⟩]
  simp only [Option.bind_some, Option.toList_some, Option.toList_none, List.cons_append, List.nil_append]
  rw [e366_12, if_pos n10, e366_32, ← hρ]
  refine okc_b (T355 hT r8 (Nat.zero_le _)) fun τ0 p0 => ?_
  show okc (RR (lkB tb366) (B366_46, [some (mR (some 80)), some (mI (X : Int)), none], [], τ0)) _ _
  have w0 := rqW_L p0.1
  have g0 : RG τ0 t n 0 := ⟨rTx_W hT w0, p0.2, (p0.1.1 _ _ (by omega)).trans r14⟩
  have s0 : rdS t n τ0 rd0 := ⟨⟨(p0.1.1 _ _ (by omega)).trans r20, fun l hl => absurd hl (Nat.not_lt_zero _)⟩, ⟨(p0.1.1 _ _ (by omega)).trans r25, fun l hl => absurd hl (Nat.not_lt_zero _)⟩, ⟨(p0.1.1 _ _ (by omega)).trans r16, fun l hl => absurd hl (Nat.not_lt_zero _)⟩⟩
  have i0 : invL (tks t n) rd0 := ⟨Nat.zero_le _, Nat.le_refl _, Nat.zero_le _⟩
  have old : ∀ τ : MS, rfa τ ρ → oldC σ τ := fun τ fr => by
    refine ⟨fun k s a b => ?_, fun k s a b => ?_, fr.2.2.trans e2, ?_⟩
    · rw [fr.1 k s (by omega) b, eo k s (by omega)]
    · rw [fr.2.1 k s a b, eL]
    · rw [fr.1 _ _ (by omega) (by omega), r1]
  have fin139b : ∀ (e : Int) (i : Nat) (τ : MS), pAsm t n = .inl e → 0 ≤ e → gI τ 80 14 = e → rfa τ ρ → okc (RR (lkB tb366) (B366_139, [some (mR (some 80)), some (mI (X : Int)), some (mI (i : Int))], [], τ)) (some (mI (asV (pAsm t n)))) (fun τ => oR (pAsm t n) (fun _ => oldC σ τ) (fun q => newC σ X q.1 q.2 τ)) := fun e i τ he e0 g fr => by
    have hb0 : 0 ≤ gI τ 80 14 := by rw [g]; exact e0
    rw [e366_139, T358b hb0]
    simp only [Option.bind_some, Option.toList_some, Option.toList_none, List.cons_append, List.nil_append]
    rw [e366_143, if_pos y00, e366_161, T358b hb0]
    simp only [Option.bind_some, Option.toList_some, Option.toList_none, List.cons_append, List.nil_append]
    rw [e366_165, if_neg (fun z => z y00), g, he]
    exact okc_s (old τ fr)
  refine L366a (σ := ρ) (n + 1) rd0 τ0 (by omega) g0 s0 i0 (fun u hu => absurd hu (Nat.not_lt_zero _)) (rfa_W w0) (fun e τ' he e0 g fr => ?_) (fun s' τ' he g r m1 m2 m3 l fr => ?_)
  · have pa : pAsm t n = .inl e := by
      unfold pAsm
      rw [he]
      rfl
    have hb0 : 0 ≤ gI τ' 80 14 := by rw [g]; exact e0
    have f139 := fin139b e 0 τ' pa e0 g fr
    rw [e366_111, e366_113]
    by_cases cl : gI τ' 80 25 ≤ 0
    · rw [if_pos cl]
      exact f139
    · rw [if_neg cl, T358b hb0]
      simp only [Option.bind_some, Option.toList_some, Option.toList_none, List.cons_append, List.nil_append]
      rw [e366_125, if_pos y00]
      exact f139
  · have pa : pAsm t n = bS (pPlc t (tks t n) s' s'.2.1.1 0 s'.2.2.1.2) fun W => if s'.2.2.1.1 = 0 then .inl (n : Int) else .inr (s'.2.2.1.1, W) := by
      unfold pAsm
      rw [he]
      rfl
    rw [e366_111]
    refine L366b (s := s') (P := fun τ => oR (pAsm t n) (fun _ => oldC σ τ) (fun q => newC σ X q.1 q.2 τ)) g.1 g.2.2 r m3 m1 m2 l (fun e i τ hp e0 g14 a1 a2 a3 => ?_) (fun W i τ hp pr => ?_) s'.2.1.1 0 s'.2.2.1.2 τ' (by omega) rfl ⟨fun _ _ => rfl, fun _ _ _ => rfl, rfl, r.2.2.2⟩
    · have pa2 : pAsm t n = .inl e := by rw [pa, hp]; rfl
      exact fin139b e i τ pa2 e0 g14 (rfa_t ⟨fun k s z1 z2 => a1 k s (by omega), fun k s z1 z2 => a2 k s z2, a3⟩ fr)
    · have fr2 : rfa τ ρ := rfa_t ⟨fun k s z1 z2 => pr.1 k s, fun k s z1 z2 => pr.2.1 k s z2, pr.2.2.1⟩ fr
      have q14 : gI τ 80 14 = -1 := (pr.1 _ _).trans g.2.2
      have q16 : gI τ 80 16 = (s'.2.2.1.1 : Int) := (pr.1 _ _).trans r.2.2.1
      have q7 : gI τ 80 7 = (n : Int) := (pr.1 _ _).trans g.1.1
      have pa2 : pAsm t n = if s'.2.2.1.1 = 0 then .inl (n : Int) else .inr (s'.2.2.1.1, W) := by rw [pa, hp]; rfl
      rw [e366_139, T358g q14]
      simp only [Option.bind_some, Option.toList_some, Option.toList_none, List.cons_append, List.nil_append]
      rw [e366_143, if_neg n10, q16]
      by_cases c0 : s'.2.2.1.1 = 0
      · rw [if_pos c0] at pa2
        have hb0 : 0 ≤ gI (sI τ 80 14 (n : Int)) 80 14 := by rw [fS_]; omega
        rw [if_neg (show ¬ ¬ ((s'.2.2.1.1 : Nat) : Int) = 0 by omega), q7, T359g q14]
        simp only [Option.bind_some, Option.toList_some, Option.toList_none, List.cons_append, List.nil_append]
        rw [e366_161, T358b hb0]
        simp only [Option.bind_some, Option.toList_some, Option.toList_none, List.cons_append, List.nil_append]
        rw [e366_165, if_neg (fun z => z y00), fS_, pa2]
        exact okc_s (old _ (rfa_t (rfa_I ⟨by omega, by omega⟩) fr2))
      · rw [if_neg c0] at pa2
        rw [if_pos (show ¬ ((s'.2.2.1.1 : Nat) : Int) = 0 by omega), e366_161, T358g q14]
        simp only [Option.bind_some, Option.toList_some, Option.toList_none, List.cons_append, List.nil_append]
        rw [e366_165, if_pos n10, pa2]
        refine okc_m (L366c (σ := τ) (M := s'.2.2.1.1) (W := W) hX m1 q16 pr.2.2.2 s'.2.2.1.1 0 τ (by omega) (fun _ _ => rfl) (fun k s => by rw [if_neg (by omega)]) rfl) fun υ p => ?_
        obtain ⟨p1, p2, p3, p4, p5⟩ := p
        refine ⟨p1, p2, fun i hi => ?_, fun k s z1 z2 z3 => ?_, fun k s z1 z2 z3 => ?_, p5.trans (fr2.2.2.trans e2), ?_⟩
        · rw [p4, if_pos ⟨rfl, by omega, by
            have hi : i < s'.2.2.1.1 := hi
            omega⟩, Nat.add_sub_cancel_left]
        · rw [p3 k s z3, fr2.1 k s (by omega) z2, eo k s (by omega)]
        · rw [p4, if_neg z3, fr2.2.1 k s z1 z2, eL]
        · rw [p3 _ _ (by omega), fr2.1 _ _ (by omega) (by omega), r1]
end RAT
