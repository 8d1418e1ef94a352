/-! ===== the reference's CONST, right side, WHERE ===== -/
/-- what reading a statement may touch -/
def rfr (τ σ : MS) : Prop := (∀ k s, ¬ (k = 80 ∧ ((8 ≤ s ∧ s ≤ 14) ∨ (25 ≤ s ∧ s ≤ 37))) → ¬ (90 ≤ k ∧ k ≤ 93) → gI τ k s = gI σ k s) ∧ (∀ k s, ¬ (k = 80 ∧ (s = 12 ∨ s = 32)) → gL τ k s = gL σ k s) ∧ τ.2.2 = σ.2.2
/-- side's frame -/
def rqS (τ σ : MS) : Prop := (∀ k s, ¬ (k = 80 ∧ ((8 ≤ s ∧ s ≤ 14) ∨ s = 26 ∨ s = 28 ∨ s = 30)) → gI τ k s = gI σ k s) ∧ (∀ k s, ¬ (k = 80 ∧ s = 12) → gL τ k s = gL σ k s) ∧ τ.2.2 = σ.2.2
/-- where's frame -/
def rqH (τ σ : MS) : Prop := (∀ k s, ¬ (k = 80 ∧ ((8 ≤ s ∧ s ≤ 14) ∨ s = 25 ∨ s = 29 ∨ s = 30)) → ¬ (90 ≤ k ∧ k ≤ 93) → gI τ k s = gI σ k s) ∧ (∀ k s, ¬ (k = 80 ∧ s = 12) → gL τ k s = gL σ k s) ∧ τ.2.2 = σ.2.2
/-- a WHERE's name is noted -/
def lnR (t : Nat → Int) (n : Nat) (τ σ : MS) (o : Option Nat) (x : Int) : Prop := match o with
  | none => (∀ k s, 90 ≤ k → k ≤ 93 → gI τ k s = gI σ k s) ∧ gI τ 80 25 = gI σ 80 25
  | some j => gI τ 80 25 = gI σ 80 25 + 1 ∧ gI τ 90 (gI σ 80 25).toNat = gI σ 80 16 ∧ gI τ 91 (gI σ 80 25).toNat = (tB (tks t n j) : Int) ∧ gI τ 92 (gI σ 80 25).toNat = ((tE (tks t n j) - tB (tks t n j) : Nat) : Int) ∧ gI τ 93 (gI σ 80 25).toNat = x ∧ ∀ k s, 90 ≤ k → k ≤ 93 → ¬ s = (gI σ 80 25).toNat → gI τ k s = gI σ k s
section RSI
variable {t : Nat → Int} {n i j k m : Nat} {σ τ ρ υ : MS} {c d e o w x : Int} {v : B64} {q : B64 × Int} {T : TK}
theorem rfr_r (σ : MS) : rfr σ σ := ⟨fun _ _ _ _ => rfl, fun _ _ _ => rfl, rfl⟩
theorem rfr_t (h1 : rfr υ τ) (h2 : rfr τ σ) : rfr υ σ := ⟨fun k s q r => (h1.1 k s q r).trans (h2.1 k s q r), fun k s q => (h1.2.1 k s q).trans (h2.2.1 k s q), h1.2.2.trans h2.2.2⟩
theorem rfr_W (h : rqW τ σ) : rfr τ σ := ⟨fun k s q _ => h.1 k s (by omega), fun k s q => h.2.1 k s (by omega), h.2.2⟩
theorem rfr_S (h : rqS τ σ) : rfr τ σ := ⟨fun k s q _ => h.1 k s (by omega), fun k s q => h.2.1 k s (by omega), h.2.2⟩
theorem rfr_H (h : rqH τ σ) : rfr τ σ := ⟨fun k s q r => h.1 k s (by omega) r, fun k s q => h.2.1 k s (by omega), h.2.2⟩
theorem rfr_I {s : Nat} (h : 25 ≤ s ∧ s ≤ 37) : rfr (sI σ 80 s x) σ := ⟨fun k' s' q _ => by rw [gI_sI, if_neg (by omega)], fun _ _ _ => rfl, rfl⟩
theorem rfr_L : rfr (sL σ 80 32 v) σ := ⟨fun _ _ _ _ => rfl, fun k' s' q => by rw [gL_sL, if_neg (by omega)], rfl⟩
theorem rfr_14 : rfr (sI σ 80 14 x) σ := rfr_W rqW_14
theorem rqS_W (h : rqW τ σ) : rqS τ σ := ⟨fun k s q => h.1 k s (by omega), h.2.1, h.2.2⟩
theorem rqS_t (h1 : rqS υ τ) (h2 : rqS τ σ) : rqS υ σ := ⟨fun k s q => (h1.1 k s q).trans (h2.1 k s q), fun k s q => (h1.2.1 k s q).trans (h2.2.1 k s q), h1.2.2.trans h2.2.2⟩
theorem rqS_I {s : Nat} (h : s = 26 ∨ s = 28 ∨ s = 30) : rqS (sI σ 80 s x) σ := ⟨fun k' s' q => by rw [gI_sI, if_neg (by omega)], fun _ _ _ => rfl, rfl⟩
theorem rqH_W (h : rqW τ σ) : rqH τ σ := ⟨fun k s q _ => h.1 k s (by omega), h.2.1, h.2.2⟩
theorem rqH_t (h1 : rqH υ τ) (h2 : rqH τ σ) : rqH υ σ := ⟨fun k s q r => (h1.1 k s q r).trans (h2.1 k s q r), fun k s q => (h1.2.1 k s q).trans (h2.2.1 k s q), h1.2.2.trans h2.2.2⟩
theorem rqH_I {s : Nat} (h : s = 25 ∨ s = 29 ∨ s = 30) : rqH (sI σ 80 s x) σ := ⟨fun k' s' q _ => by rw [gI_sI, if_neg (by omega)], fun _ _ _ => rfl, rfl⟩
theorem rqH_K {k s : Nat} (h : 90 ≤ k ∧ k ≤ 93) : rqH (sI σ k s x) σ := ⟨fun k' s' q r => by rw [gI_sI, if_neg (by omega)], fun _ _ _ => rfl, rfl⟩
/-- a register is wanted -/
theorem T375g (h : RG σ t n k) (hw : w = 0 ∨ w = 1) (hc : 0 ≤ rgR t (tks t n k) ∧ (¬ x = 0 ∨ (if rgR t (tks t n k) < 16 then (0 : Int) else 1) = w)) : MM 375 [mR (some 80), mI w, mI x] σ = some (none, σ) := by
  have s42 : ∀ y : Int, y = w → RR (lkB tb375) (B375_42, [some (mR (some 80)), some (mI w), some (mI x), some (mI (rgR t (tks t n k)))], [mI y], σ) = some (none, σ) := fun y hy => by
    rw [e375_42, if_pos hy, e375_54]
  rw [M375, e375_0, T358g h.2.2]
  simp only [Option.bind_some, Option.toList_some, Option.toList_none, List.cons_append, List.nil_append]
  rw [e375_4, if_neg (by decide), T364 h]
  simp only [Option.bind_some, Option.toList_some, Option.toList_none, List.cons_append, List.nil_append]
  rw [e375_11, e375_15, T358g h.2.2]
  simp only [Option.bind_some, Option.toList_some, Option.toList_none, List.cons_append, List.nil_append]
  rw [e375_20, if_neg (by decide), if_neg (by omega), e375_54]
  by_cases cx : x = 0
  · rw [if_neg (fun z => z cx)]
    have hc2 := hc.2.resolve_left (fun z => z cx)
    by_cases c16 : rgR t (tks t n k) < 16
    · rw [if_pos c16]
      rw [if_pos c16] at hc2
      exact s42 0 hc2
    · rw [if_neg c16]
      rw [if_neg c16] at hc2
      exact s42 1 hc2
  · rw [if_pos cx]
theorem T375e (h : RG σ t n k) (hc : ¬ (0 ≤ rgR t (tks t n k) ∧ (¬ x = 0 ∨ (if rgR t (tks t n k) < 16 then (0 : Int) else 1) = w))) : MM 375 [mR (some 80), mI w, mI x] σ = some (none, sI σ 80 14 (tB (tks t n k) : Int)) := by
  have s46 : RR (lkB tb375) (B375_46, [some (mR (some 80)), some (mI w), some (mI x), some (mI (rgR t (tks t n k)))], [], σ) = some (none, sI σ 80 14 (tB (tks t n k) : Int)) := by
    rw [e375_46, T359g h.2.2, RG_10 h]
    simp only [Option.bind_some, Option.toList_some, Option.toList_none, List.cons_append, List.nil_append]
    rw [e375_54]
  rw [M375, e375_0, T358g h.2.2]
  simp only [Option.bind_some, Option.toList_some, Option.toList_none, List.cons_append, List.nil_append]
  rw [e375_4, if_neg (by decide), T364 h]
  simp only [Option.bind_some, Option.toList_some, Option.toList_none, List.cons_append, List.nil_append]
  rw [e375_11, e375_15, T358g h.2.2]
  simp only [Option.bind_some, Option.toList_some, Option.toList_none, List.cons_append, List.nil_append]
  rw [e375_20, if_neg (by decide)]
  by_cases c0 : rgR t (tks t n k) < 0
  · rw [if_pos c0, s46]
  · rw [if_neg c0]
    by_cases cx : x = 0
    · rw [if_neg (fun z => z cx)]
      by_cases c16 : rgR t (tks t n k) < 16
      · rw [if_pos c16, e375_42, if_neg (fun z => hc ⟨by omega, Or.inr (by rw [if_pos c16]; exact z)⟩), s46]
      · rw [if_neg c16, e375_42, if_neg (fun z => hc ⟨by omega, Or.inr (by rw [if_neg c16]; exact z)⟩), s46]
    · exact absurd ⟨by omega, Or.inl cx⟩ hc
/-- CONST -/
theorem L374 {m : Int} {y : B64} (g : RG σ t n j) (hm : y = if m = 0 then iL 4294967295 else iL 2147483648) : (∀ e, pNum (tks t n) y j = .inl e → ∃ v, okc (RR (lkB tb374) (B374_30, [some (mR (some 80)), some (mI m), none, none], [], σ)) (some (mI v)) (fun υ => rqE υ σ e ∧ 0 ≤ e)) ∧ (∀ j2, pNum (tks t n) y j = .inr j2 → okc (RR (lkB tb374) (B374_30, [some (mR (some 80)), some (mI m), none, none], [], σ)) (some (mI (lI (sgV m (tV (tks t n j)))))) (fun υ => rqW υ σ ∧ RG υ t n j2)) := by
  have b72 : ∀ τ : MS, 0 ≤ gI τ 80 14 → ∃ v, RR (lkB tb374) (B374_72, [some (mR (some 80)), some (mI m), none, none], [], τ) = some (some (mI v), τ) := fun τ hb => by
    rw [e374_72]
    by_cases cm : m = 0
    · refine ⟨lI (gL τ 80 12), ?_⟩
      rw [if_pos cm, e374_88, T373b hb]
      simp only [Option.bind_some, Option.toList_some, Option.toList_none, List.cons_append, List.nil_append]
      rw [e374_93]
    · refine ⟨lI (-(gL τ 80 12)), ?_⟩
      rw [if_neg cm, e374_88, T373b hb]
      simp only [Option.bind_some, Option.toList_some, Option.toList_none, List.cons_append, List.nil_append]
      rw [e374_93]
  have hb := rqE_0 (mis g)
  obtain ⟨vb, hvb⟩ := b72 (sI σ 80 14 (tB (tks t n j) : Int)) hb
  by_cases c3 : tK (tks t n j) = 3 ∧ tkS (tks t n j) = 0
  · have s54 : RR (lkB tb374) (B374_30, [some (mR (some 80)), some (mI m), none, none], [], σ) = RR (lkB tb374) (B374_54, [some (mR (some 80)), some (mI m), none, none], [mL y], σ) := by
      rw [e374_30, T372g g c3]
      simp only [Option.bind_some, Option.toList_some, Option.toList_none, List.cons_append, List.nil_append]
      rw [e374_34, T358g g.2.2]
      simp only [Option.bind_some, Option.toList_some, Option.toList_none, List.cons_append, List.nil_append]
      rw [e374_38, if_neg n10, hm]
      by_cases cm : m = 0
      · rw [if_pos cm, if_pos cm]
      · rw [if_neg cm, if_neg cm]
    rw [s54, e374_54, T389, RG_12 g c3.1]
    simp only [Option.bind_some, Option.toList_some, Option.toList_none, List.cons_append, List.nil_append]
    rw [e374_61]
    unfold pNum
    by_cases cl : y < tV (tks t n j)
    · rw [b2_yes cl, if_neg n10, if_neg (show ¬ (tK (tks t n j) = 3 ∧ tkS (tks t n j) = 0 ∧ ¬ y < tV (tks t n j)) from fun z => z.2.2 cl), T359g g.2.2, RG_10 g]
      simp only [Option.bind_some, Option.toList_some, Option.toList_none, List.cons_append, List.nil_append]
      refine ⟨fun e he => ?_, fun j2 he => (by cases he)⟩
      have he : ((tB (tks t n j) : Nat) : Int) = e := Sum.inl.inj he
      refine ⟨vb, okc_o hvb ?_⟩
      rw [← he]
      exact ⟨mis g, by omega⟩
    · rw [b2_no cl, if_pos y00, if_pos (show tK (tks t n j) = 3 ∧ tkS (tks t n j) = 0 ∧ ¬ y < tV (tks t n j) from ⟨c3.1, c3.2, cl⟩)]
      refine ⟨fun e he => (by cases he), fun j2 he => ?_⟩
      have he : j + 1 = j2 := Sum.inr.inj he
      rw [← he, e374_72, RG_12 g c3.1]
      have s88 : ∀ y : B64, okc (RR (lkB tb374) (B374_88, [some (mR (some 80)), some (mI m), none, none], [mL y], σ)) (some (mI (lI y))) (fun υ => rqW υ σ ∧ RG υ t n (j + 1)) := fun y => by
        rw [e374_88]
        refine okc_b (T373g g (by rw [c3.1]; decide)) fun υ p => ?_
        show okc (RR (lkB tb374) (B374_93, [some (mR (some 80)), some (mI m), some (mL y), none], [], υ)) _ _
        rw [e374_93]
        exact okc_s p
      unfold sgV
      by_cases cm : m = 0
      · rw [if_pos cm, if_pos cm]
        exact s88 _
      · rw [if_neg cm, if_neg cm]
        exact s88 _
  · have pn : pNum (tks t n) y j = .inl (tB (tks t n j) : Int) := if_neg (fun z => c3 ⟨z.1, z.2.1⟩)
    rw [pn]
    refine ⟨fun e he => ?_, fun j2 he => (by cases he)⟩
    have he : ((tB (tks t n j) : Nat) : Int) = e := Sum.inl.inj he
    refine ⟨vb, ?_⟩
    rw [e374_30, T372e g c3]
    simp only [Option.bind_some, Option.toList_some, Option.toList_none, List.cons_append, List.nil_append]
    rw [e374_34, T358b hb]
    simp only [Option.bind_some, Option.toList_some, Option.toList_none, List.cons_append, List.nil_append]
    rw [e374_38, if_pos y00]
    refine okc_o hvb ?_
    rw [← he]
    exact ⟨mis g, by omega⟩
theorem mn_1 {T : Nat → TK} (h : sgn T 45 k) : mnS T k = 1 ∧ skS T k = k + 1 := ⟨if_pos h, if_pos h⟩
theorem mn_0 {T : Nat → TK} (h : ¬ sgn T 45 k) : mnS T k = 0 ∧ skS T k = k := ⟨if_neg h, if_neg h⟩
theorem T374 (h : RG σ t n k) : (∀ e, pCst (tks t n) k = .inl e → ∃ v, okc (MM 374 [mR (some 80)] σ) (some (mI v)) (fun τ => rqE τ σ e ∧ 0 ≤ e)) ∧ (∀ q, pCst (tks t n) k = .inr q → okc (MM 374 [mR (some 80)] σ) (some (mI (lI q.1))) (fun τ => rqW τ σ ∧ RG τ t n q.2)) := by
  have beg : MM 374 [mR (some 80)] σ = RR (lkB tb374) (B374_21, [some (mR (some 80)), none, none, none], [mI (mnS (tks t n) k)], σ) := by
    rw [M374, e374_0, T358g h.2.2]
    simp only [Option.bind_some, Option.toList_some, Option.toList_none, List.cons_append, List.nil_append]
    rw [e374_4, if_neg n10, T360 h]
    simp only [Option.bind_some, Option.toList_some, Option.toList_none, List.cons_append, List.nil_append]
    rw [e374_13, e374_20]
    by_cases cs : sgn (tks t n) 45 k
    · rw [b2_yes cs, if_neg n10, (mn_1 cs).1]
    · rw [b2_no cs, if_pos y00, (mn_0 cs).1]
  rw [beg]
  have pc : ∀ {A : Int} {J : Nat} {Y : B64}, mnS (tks t n) k = A → skS (tks t n) k = J → Y = (if A = 0 then iL 4294967295 else iL 2147483648) → pCst (tks t n) k = (bS (pNum (tks t n) Y J) fun k2 => .inr (sgV A (tV (tks t n J)), k2)) := fun a b c => by
    unfold pCst
    rw [a, b, ← c]
  by_cases cs : sgn (tks t n) 45 k
  · obtain ⟨x1, x2⟩ := mn_1 cs
    obtain ⟨υ, e1, p⟩ := A355 h (by rw [cs.1]; decide)
    have l := L374 (m := 1) (y := iL 2147483648) p.2 (if_neg n10).symm
    rw [pc x1 x2 (if_neg n10).symm, x1, e374_21, if_neg n10, e1]
    simp only [Option.bind_some, Option.toList_some, Option.toList_none, List.cons_append, List.nil_append]
    refine ⟨fun e he => ?_, fun q he => ?_⟩
    · cases pp : pNum (tks t n) (iL 2147483648) (k + 1) with
      | inl e' =>
        rw [pp] at he
        have he : e' = e := Sum.inl.inj he
        obtain ⟨v, hv⟩ := l.1 e (by rw [pp, he])
        exact ⟨v, okc_m hv fun τ z => ⟨⟨rqW_t z.1.1 p.1, z.1.2⟩, z.2⟩⟩
      | inr j2 =>
        rw [pp] at he
        cases he
    · cases pp : pNum (tks t n) (iL 2147483648) (k + 1) with
      | inl e' =>
        rw [pp] at he
        cases he
      | inr j2 =>
        rw [pp] at he
        have he := Sum.inr.inj he
        rw [← he]
        exact okc_m (l.2 j2 pp) fun τ z => ⟨rqW_t z.1 p.1, z.2⟩
  · obtain ⟨x1, x2⟩ := mn_0 cs
    have l := L374 (m := 0) (y := iL 4294967295) h (if_pos y00).symm
    rw [pc x1 x2 (if_pos y00).symm, x1, e374_21, if_pos y00]
    refine ⟨fun e he => ?_, fun q he => ?_⟩
    · cases pp : pNum (tks t n) (iL 4294967295) k with
      | inl e' =>
        rw [pp] at he
        have he : e' = e := Sum.inl.inj he
        exact l.1 e (by rw [pp, he])
      | inr j2 =>
        rw [pp] at he
        cases he
    · cases pp : pNum (tks t n) (iL 4294967295) k with
      | inl e' =>
        rw [pp] at he
        cases he
      | inr j2 =>
        rw [pp] at he
        have he := Sum.inr.inj he
        rw [← he]
        exact l.2 j2 pp
end RSI
