/-! ===== the class's reader, whole ===== -/
/-- what reading a text leaves -/
def crd (τ σ : MS) : Prop := (∀ k s, ¬ (18 ≤ k ∧ k ≤ 25) → gI τ k s = gI σ k s) ∧ (∀ k s, ¬ (18 ≤ k ∧ k ≤ 25) → gL τ k s = gL σ k s) ∧ τ.2.2 = (sR σ 18 2 (some 1)).2.2
section CRE
variable {t : Nat → Int} {n i j k m l M : Nat} {σ τ ρ υ : MS} {c d e o w x y z a r op f im : Int} {v Y : B64} {s s' : RD} {W : Nat → B64}
theorem crd_f (f : cfa τ ρ) (h : crd ρ σ) : crd τ σ := ⟨fun k s a => (f.1 k s (by omega) (by omega) (by omega)).trans (h.1 k s a), fun k s a => (f.2.1 k s (by omega) (by omega)).trans (h.2.1 k s a), f.2.2.trans h.2.2⟩
/-- at the end -/
theorem T150e (h : cG σ t n m k) (k0 : tK (tks t n k) = 0) : MM 150 [mR (some 18)] σ = some (some (mI 1), σ) := by
  obtain ⟨a1, a2, -⟩ := cG_tk h h.2.2.1
  have km := cG_m h
  have k6 : kC (tks t n k) = 6 := by rw [kc_6']; exact k0
  rw [M150, e150_0, h.2.1, if_pos (g20' km), Int.toNat_natCast, a1, k6, if_pos (show ¬ (6 : Int) = 1 by decide), e150_25, e150_26, if_pos y00, e150_133, h.2.1, if_pos (g20' km), if_pos (g20' km), Int.toNat_natCast, a1, k6, if_neg (show ¬ (6 : Int) = 5 by decide), if_neg (show ¬ ¬ (6 : Int) = 6 by decide)]
/-- lines are read -/
theorem L132a {v : Option MV} {P : MS → Prop} : ∀ (f : Nat) (s : RD) (τ : MS) (x : Int), n + 1 ≤ f + tB (tks t n s.2.2.2) → x ≤ (s.2.2.2 : Int) → 0 ≤ x → cG τ t n m s.2.2.2 → cRD m τ s → invL (tks t n) s → lkM s → lkC s → cfa τ σ → (∀ (e : Int) (τ' : MS) (x' : Int), pLns t (tks t n) f s = .inl e → 0 ≤ e → gI τ' 18 9 = e → cfa τ' σ → okc (RR (lkB tb132) (B132_85, [some (mR (some 18)), some (mR (some 1)), some (mI (n : Int)), some (mI x')], [], τ')) v P) → (∀ (s' : RD) (τ' : MS) (x' : Int), pLns t (tks t n) f s = .inr s' → cG τ' t n m s'.2.2.2 → cRD m τ' s' → s'.2.2.1.1 ≤ 200 → s'.2.1.1 ≤ 200 → s'.1.1 ≤ 1399 → lkM s' → lkC s' → cfa τ' σ → okc (RR (lkB tb132) (B132_85, [some (mR (some 18)), some (mR (some 1)), some (mI (n : Int)), some (mI x')], [], τ')) v P) → okc (RR (lkB tb132) (B132_37, [some (mR (some 18)), some (mR (some 1)), some (mI (n : Int)), some (mI x)], [], τ)) v P := by
  intro f
  induction f with
  | zero =>
    intro s τ x hf hx hx0 g r i l lc fr bad well
    have := tks_le (t := t) (n := n) s.2.2.2
    omega
  | succ f ih =>
    intro s τ x hf hx hx0 g r i l lc fr bad well
    have n4 := g.1.1.2.1
    have m7 := g.1.2.1
    have am := g.2.2.1
    have le := tks_le (t := t) (n := n) s.2.2.2
    have eq : pLns t (tks t n) (f + 1) s = if tK (tks t n s.2.2.2) = 0 then .inr s else bS (pLin t (tks t n) s) fun s' => if tK (tks t n s'.2.2.2) = 1 then pLns t (tks t n) f (s'.1, s'.2.1, s'.2.2.1, s'.2.2.2 + 1) else .inr s' := rfl
    rw [eq] at bad well
    rw [e132_37, m7, if_neg (show ¬ ((m + 1 : Nat) : Int) < x by omega)]
    by_cases c0 : tK (tks t n s.2.2.2) = 0
    · obtain ⟨a1, -⟩ := cG_tk g am
      have km := cG_m g
      have k6 : kC (tks t n s.2.2.2) = 6 := by rw [kc_6']; exact c0
      rw [if_pos c0] at well
      rw [T150e g c0]
      simp only [Option.bind_some, Option.toList_some, Option.toList_none, List.cons_append, List.nil_append]
      rw [e132_49, if_neg n10, g.2.1, if_pos (g20' km), Int.toNat_natCast, a1, k6, if_neg (show ¬ ¬ (6 : Int) = 6 by decide)]
      exact well s τ x rfl g r i.1 (by have := i.1; have := i.2.1; omega) (by have := i.2.2; omega) l lc fr
    · rw [if_neg c0] at bad well
      obtain ⟨τ1, e1, p⟩ := T150 g r i c0
      rw [e1]
      simp only [Option.bind_some, Option.toList_some, Option.toList_none, List.cons_append, List.nil_append]
      cases hp : pLin t (tks t n) s with
      | inl e =>
        rw [hp] at p bad
        obtain ⟨p1, p2, p3⟩ := p
        show okc (RR (lkB tb132) (B132_49, [some (mR (some 18)), some (mR (some 1)), some (mI (n : Int)), some (mI x)], [mI 0], τ1)) v P
        rw [e132_49, if_pos y00]
        exact bad e τ1 x rfl p3 p2 (cfa_t p1 fr)
      | inr s1 =>
        rw [hp] at p bad well
        obtain ⟨p1, p2, p3⟩ := p
        obtain ⟨i1, i2, i3⟩ := pLin_i i hp c0
        obtain ⟨j1, j2, j3, j4⟩ := i1
        have le1 := tks_le (t := t) (n := n) s1.2.2.2
        have l1 := lkM_l l hp
        have lc1 := lkC_l l lc hp
        have bad : ∀ (e : Int) (τ' : MS) (x' : Int), (if tK (tks t n s1.2.2.2) = 1 then pLns t (tks t n) f (s1.1, s1.2.1, s1.2.2.1, s1.2.2.2 + 1) else .inr s1) = .inl e → 0 ≤ e → gI τ' 18 9 = e → cfa τ' σ → okc (RR (lkB tb132) (B132_85, [some (mR (some 18)), some (mR (some 1)), some (mI (n : Int)), some (mI x')], [], τ')) v P := bad
        have well : ∀ (s' : RD) (τ' : MS) (x' : Int), (if tK (tks t n s1.2.2.2) = 1 then pLns t (tks t n) f (s1.1, s1.2.1, s1.2.2.1, s1.2.2.2 + 1) else .inr s1) = .inr s' → cG τ' t n m s'.2.2.2 → cRD m τ' s' → s'.2.2.1.1 ≤ 200 → s'.2.1.1 ≤ 200 → s'.1.1 ≤ 1399 → lkM s' → lkC s' → cfa τ' σ → okc (RR (lkB tb132) (B132_85, [some (mR (some 18)), some (mR (some 1)), some (mI (n : Int)), some (mI x')], [], τ')) v P := well
        show okc (RR (lkB tb132) (B132_49, [some (mR (some 18)), some (mR (some 1)), some (mI (n : Int)), some (mI x)], [mI 1], τ1)) v P
        obtain ⟨a1, -⟩ := cG_tk p3 p3.2.2.1
        have km := cG_m p3
        have xm : x < 100000 := by omega
        rw [e132_49, if_neg n10, p3.2.1, if_pos (g20' km), Int.toNat_natCast, a1]
        by_cases c1 : tK (tks t n s1.2.2.2) = 1
        · have k5 : kC (tks t n s1.2.2.2) = 5 := by rw [kc_5']; exact c1
          rw [if_pos c1] at bad well
          have lt1 := tks_lt (t := t) (n := n) (k := s1.2.2.2) (by rw [c1]; decide)
          have m1 := tks_m1 (t := t) (n := n) (k := s1.2.2.2)
          have m0 := tks_mo (t := t) (n := n) i2
          have l2 := cG_lt p3 (by rw [c1]; decide)
          rw [k5, if_pos (show ¬ (5 : Int) = 6 by decide), w32_s1 (show s1.2.2.2 < 100000 by omega), w32_i (x := x + 1) (by omega) (by omega)]
          refine ih (s1.1, s1.2.1, s1.2.2.1, s1.2.2.2 + 1) (sI τ1 18 8 ((s1.2.2.2 + 1 : Nat) : Int)) (x + 1) (by show n + 1 ≤ f + tB (tks t n (s1.2.2.2 + 1)); omega) (by show x + 1 ≤ ((s1.2.2.2 + 1 : Nat) : Int); omega) (by omega) (cG_8 p3 l2) (cRD_f p2 (ccq_I (by omega))) ⟨j1, j2, by show 3 * s1.1.1 ≤ tB (tks t n (s1.2.2.2 + 1)); omega⟩ l1 lc1 (cfa_t (cfa_c (ccq_I (by omega))) (cfa_t p1 fr)) bad well
        · have c0' := j4.resolve_left c1
          have k6 : kC (tks t n s1.2.2.2) = 6 := by rw [kc_6']; exact c0'
          rw [if_neg c1] at well
          rw [k6, if_neg (show ¬ ¬ (6 : Int) = 6 by decide)]
          exact well s1 τ1 x rfl p3 p2 j1 (by omega) (by omega) l1 lc1 (cfa_t p1 fr)
/-- read -/
theorem T132 (hn : n ≤ 4000) (ht : ∀ j, gI σ 1 j = t j) (hb : ∀ j, -128 ≤ t j ∧ t j < 128) : okc (MM 132 [mR (some 18), mR (some 1), mI (n : Int)] σ) (some (mI (asV (pAsm t n)))) (fun τ => crd τ σ ∧ oR (pAsm t n) (fun _ => True) (fun q => gI τ 18 1 = (q.1 : Int) ∧ ∀ i, i < q.1 → gL τ 19 i = q.2 i)) := by
  have hT : cTx (sR σ 18 2 (some 1)) t n := ⟨by rw [gR_sR, if_pos ⟨rfl, rfl⟩], hn, ht, hb⟩
  rw [M132, e132_0, if_pos (show ao σ 5 (some 18) ∧ ak σ 5 (some 1) from ⟨⟨rfl, rfl⟩, fun _ => rfl⟩)]
  refine okc_b (T133 hT) fun τ0 p0 => ?_
  obtain ⟨p1, m, pm⟩ := p0
  show okc (RR (lkB tb132) (B132_10, [some (mR (some 18)), some (mR (some 1)), some (mI (n : Int)), none], [], τ0)) _ _
  rw [e132_10, e132_25]
  obtain ⟨ρ, hρ⟩ : ∃ ρ, ρ = sI (sI (sI (sI (sI τ0 18 8 0) 18 1 0) 18 11 0) 18 13 0) 18 9 (-1) := ⟨_, rfl⟩
  have eo : ∀ k s, ¬ (k = 18 ∧ (s = 1 ∨ s = 8 ∨ s = 9 ∨ s = 11 ∨ s = 13)) → gI ρ k s = gI τ0 k s := fun k s z => by
    rw [hρ, gI_sI, if_neg (by omega), gI_sI, if_neg (by omega), gI_sI, if_neg (by omega), gI_sI, if_neg (by omega), gI_sI, if_neg (by omega)]
  have eL : ∀ k s, gL ρ k s = gL τ0 k s := fun k s => by rw [hρ]; rfl
  have e2 : ρ.2.2 = τ0.2.2 := by rw [hρ]; rfl
  have r9 : gI ρ 18 9 = -1 := by rw [hρ, gI_sI, if_pos ⟨rfl, rfl⟩]
  have r13 : gI ρ 18 13 = 0 := by rw [hρ, gI_sI, if_neg (by omega), gI_sI, if_pos ⟨rfl, rfl⟩]
  have r11 : gI ρ 18 11 = 0 := by rw [hρ, gI_sI, if_neg (by omega), gI_sI, if_neg (by omega), gI_sI, if_pos ⟨rfl, rfl⟩]
  have r1 : gI ρ 18 1 = 0 := by rw [hρ, gI_sI, if_neg (by omega), gI_sI, if_neg (by omega), gI_sI, if_neg (by omega), gI_sI, if_pos ⟨rfl, rfl⟩]
  have r8 : gI ρ 18 8 = 0 := by rw [hρ, gI_sI, if_neg (by omega), gI_sI, if_neg (by omega), gI_sI, if_neg (by omega), gI_sI, if_neg (by omega), gI_sI, if_pos ⟨rfl, rfl⟩]
  rw [← hρ]
  clear hρ
  have fC : crd ρ σ := ⟨fun k s a => (eo k s (by omega)).trans (p1.1 k s (by omega)), fun k s a => (eL k s).trans (p1.2.1 k s (by omega)), e2.trans p1.2.2⟩
  have g0 : cG ρ t n m 0 := by
    obtain ⟨k1, k2, k3, k4, k5⟩ := pm
    refine ⟨⟨⟨?_, hn, fun j => (fC.1 _ _ (by omega)).trans (ht j), hb⟩, ⟨(eo _ _ (by omega)).trans k1, k2, fun j hj => ?_, k4, k5⟩⟩, r8, Nat.zero_le _, r9⟩
    · rw [gR_22 fC.2.2, gR_sR, if_pos ⟨rfl, rfl⟩]
    · obtain ⟨a1, a2, a3, a4, a5⟩ := k3 j hj
      exact ⟨(eo _ _ (by omega)).trans a1, (eo _ _ (by omega)).trans a2, (eo _ _ (by omega)).trans a3, fun z => (eL _ _).trans (a4 z), fun z => (eL _ _).trans (a5 z)⟩
  have s0 : cRD m ρ rd0 := ⟨⟨r11, fun l hl => absurd hl (Nat.not_lt_zero _)⟩, ⟨r13, fun l hl => absurd hl (Nat.not_lt_zero _)⟩, r1, fun l hl => absurd hl (Nat.not_lt_zero _)⟩
  have i0 : invL (tks t n) rd0 := ⟨Nat.zero_le _, Nat.le_refl _, Nat.zero_le _⟩
  have fin96 : ∀ (e : Int) (τ : MS) (x : Int), pAsm t n = .inl e → 0 ≤ e → gI τ 18 9 = e → crd τ σ → okc (RR (lkB tb132) (B132_96, [some (mR (some 18)), some (mR (some 1)), some (mI (n : Int)), some (mI x)], [], τ)) (some (mI (asV (pAsm t n)))) (fun τ => crd τ σ ∧ oR (pAsm t n) (fun _ => True) (fun q => gI τ 18 1 = (q.1 : Int) ∧ ∀ i, i < q.1 → gL τ 19 i = q.2 i)) := fun e τ x he e0 g9 fr => by
    rw [e132_96, g9, if_pos e0, e132_115, g9, if_pos e0, he]
    exact okc_s ⟨fr, trivial⟩
  refine L132a (σ := ρ) (m := m) (n + 1) rd0 ρ 0 (by omega) (by show (0 : Int) ≤ ((0 : Nat) : Int); omega) (by omega) g0 s0 i0 (fun u hu => absurd hu (Nat.not_lt_zero _)) ⟨fun u hu => absurd hu (Nat.not_lt_zero _), fun u v _ hu => absurd hu (Nat.not_lt_zero _)⟩ (cfa_r ρ) (fun e τ' x' he e0 g fr => ?_) (fun s' τ' x' he g r m1 m2 m3 l lc fr => ?_)
  · have pa : pAsm t n = .inl e := by
      unfold pAsm
      rw [he]
      rfl
    rw [e132_85, g, if_pos e0]
    exact fin96 e τ' x' pa e0 g (crd_f fr fC)
  · have pa : pAsm t n = bS (pPlc t (tks t n) s' s'.2.1.1 0 s'.2.2.1.2) fun W => if s'.2.2.1.1 = 0 then .inl (n : Int) else .inr (s'.2.2.1.1, W) := by
      unfold pAsm
      rw [he]
      rfl
    rw [e132_85, g.2.2.2, if_neg (show ¬ (0 : Int) ≤ -1 by decide)]
    refine okc_b (T154 g r lc l (by omega) m1 m2) fun τ2 q => ?_
    show okc (RR (lkB tb132) (B132_96, [some (mR (some 18)), some (mR (some 1)), some (mI (n : Int)), some (mI x')], [], τ2)) _ _
    cases hp : pPlc t (tks t n) s' s'.2.1.1 0 s'.2.2.1.2 with
    | inl e =>
      rw [hp] at q pa
      obtain ⟨q1, q2, q3⟩ := q
      exact fin96 e τ2 x' pa q3 q2 (crd_f q1 (crd_f fr fC))
    | inr W =>
      rw [hp] at q pa
      obtain ⟨q1, q2, q3, q4⟩ := q
      have pa : pAsm t n = if s'.2.2.1.1 = 0 then .inl (n : Int) else .inr (s'.2.2.1.1, W) := pa
      have f2 := crd_f q1 (crd_f fr fC)
      rw [e132_96, q2, if_neg (show ¬ (0 : Int) ≤ -1 by decide), q3]
      by_cases cz : s'.2.2.1.1 = 0
      · rw [if_pos cz] at pa
        have e9 : gI (sI τ2 18 9 (n : Int)) 18 9 = (n : Int) := c9
        rw [if_neg (show ¬ ¬ ((s'.2.2.1.1 : Nat) : Int) = 0 by omega), e132_115, e9, if_pos (show (0 : Int) ≤ (n : Int) by omega), pa]
        exact okc_s ⟨crd_f (cfa_c (ccq_I (by omega))) f2, trivial⟩
      · rw [if_neg cz] at pa
        rw [if_pos (show ¬ ((s'.2.2.1.1 : Nat) : Int) = 0 by omega), e132_115, q2, if_neg (show ¬ (0 : Int) ≤ -1 by decide), q3, pa]
        exact okc_s ⟨f2, q3, q4⟩
end CRE
