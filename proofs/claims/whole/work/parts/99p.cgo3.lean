/-! ===== the class's walk against the pure walk: a way parts ===== -/
section CGO3
variable {τ σ ρ υ : MS} {cf wf : Nat → Nat} {D : Nat → Bool} {hc sc q s k j a c cc M y : Nat} {w : WK} {C B n g f4 f5 F Fr T : Int} {S S1 S2 : ST} {E : EV} {x1 : Option Nat}
theorem L36c (ky : ak ρ 2 (some y)) (h11 : gI ρ 39 11 = (M : Int)) (hM : M < 60) (g4 : gI ρ 51 4 = f4) : RR (lkB tb36) (B36_85, [some (mR (some 39)), some (mR x1)], [mR (some y), mR (some 39)], ρ) = RR (lkB tb36) (B36_117, [some (mR (some 39)), some (mR x1)], [], sI (sI (sR ρ 39 15 (some y)) 39 11 ((M : Int) + 1)) 51 4 (if f4 < (M : Int) + 1 then (M : Int) + 1 else f4)) := by
  have a39 : ao ρ 0 (some 39) = True := eq_true ⟨rfl, rfl⟩
  have ky' : ak ρ 2 (some y) = True := eq_true ky
  have g51 : (Option.isSome (some 51) = true ∧ ab ρ 3 51 4) = True := by
    rw [g_51]
    exact eq_true (by decide)
  have ww : w32 ((M : Int) + 1) = (M : Int) + 1 := w32_i (by omega) (by omega)
  simp only [e36_85, e36_116, Option.getD_some, Option.bind_some, Option.toList_some, Option.toList_none, List.cons_append, List.nil_append, and_self, and_true, true_and, false_and, and_false, ite_self, not_true_eq_false, not_false_eq_true, reduceIte, Nat.reduceEqDiff, ab_I, ab_L, ab_R, ao_I, ao_L, ao_R, gL_sL, gI_sI, gR_sR, gI_sL, gI_sR, gL_sI, gL_sR, gR_sI, gR_sL, a39, ky', g51, Int.reduceToNat, h11, ww, g4, T570]
/-- what is behind goOn where a way parts: u is the spare one now -/
abbrev g2S (ρ : MS) (hc u M : Nat) (f4 n : Int) : MS := sI (sI (sI (sR ρ 39 15 (some u)) 39 11 ((M : Int) + 1)) 51 4 (if f4 < (M : Int) + 1 then (M : Int) + 1 else f4)) hc 5 n
theorem L36d (h14 : gR ρ 39 14 = some hc) (sh : isSt ρ hc) (ch : isCl hc) (ky : ak ρ 2 (some y)) (h11 : gI ρ 39 11 = (M : Int)) (hM : M < 60) (g4 : gI ρ 51 4 = f4) (h4 : gI ρ 40 4 = n) (h0 : 0 ≤ n) : RR (lkB tb36) (B36_85, [some (mR (some 39)), some (mR x1)], [mR (some y), mR (some 39)], ρ) = some (some (mI 1), g2S ρ hc y M f4 n) := by
  rw [L36c ky h11 hM g4]
  have t := L36n (ρ := sI (sI (sR ρ 39 15 (some y)) 39 11 ((M : Int) + 1)) 51 4 (if f4 < (M : Int) + 1 then (M : Int) + 1 else f4)) (hc := hc) (n := n) (by
    show gR (sR ρ 39 15 (some y)) 39 14 = some hc
    rw [gR_sR, if_neg (by omega)]
    exact h14) sh (by
    rw [gI_sI, if_neg (by omega), gI_sI, if_neg (by omega)]
    exact h4) h0
  exact RR_q (ls := [some (mR (some 39)), none]) t (by repeat (first | exact lq_nil | refine lq_cons (Or.inr rfl) ?_ | refine lq_cons (Or.inl rfl) ?_))
/-- two ways -/
theorem cw_g2 (h : CWx σ C cf wf D hc w) (h15 : gR σ 39 15 = some sc) (c1 : CSt σ hc S1) (h4 : gI σ 40 4 = n) (h0 : 0 ≤ n) (h3 : gI σ 40 3 = 1) (t5 : gI σ 40 5 = g) (c2 : CSt σ sc S2) (s7 : gI σ sc 7 = yF w) (s6 : gR σ sc 6 = some (cf (yK w))) (hM : yM w < 60) (hx : (sF S1 : Int) ≤ w.2.2.2.2.1) :
    okc (MM 36 [mR (some 39)] σ) (some (mI 1)) (fun τ => cwq τ σ ∧ gI τ 51 0 = gI σ 51 0 ∧ CW τ C ((S1, n, yK w, yF w, yG w, yT w), (yNn w, upK (yH w) (yK w) (kS (yH w (yK w)), kA (yH w (yK w)), kB (yH w (yK w)), kF (yH w (yK w)), kW (yH w (yK w)) + 1, kL (yH w (yK w)))), (yM w + 1, fun j => if j = yM w then (S2, g, yK w, yF w) else yW w j), max w.2.2.2.1 ((yM w : Int) + 1), w.2.2.2.2.1, w.2.2.2.2.2)) := by
  obtain ⟨df, ⟨po, pn, _, _⟩, hk, hw, ⟨l1, l2, l3⟩, h11, ⟨⟨f1, f2, f4, f5⟩, f8, fk⟩⟩ := h
  have sh := po.1 0 hc (by decide) (sR_z.trans l1)
  have ch := sh.2
  have ss := po.1 1 sc (by decide) (sR_o.trans h15)
  have cs := ss.2
  have dhs := po.2 0 1 hc sc (by decide) (by decide) (by decide) (sR_z.trans l1) (sR_o.trans h15)
  have N250 := df.2.1.2.1
  have l6 := pn_lt pn
  have p153 := pn.2.1
  have t1 := L36b l1 sh.1 h15 ss.1 cs ch h3 t5 f5 c1.1.1 h11 hM
  rw [if_neg (show ¬ w.2.2.2.2.1 < (sF S1 : Int) by omega)] at t1
  have ch' := ch
  have cs' := cs
  unfold isCl at ch' cs'
  -- the state before the spare one is chosen
  obtain ⟨γ, hγ⟩ : ∃ γ, γ = gnS σ sc (yM w) w.2.2.2.2.1 g := ⟨_, rfl⟩
  rw [← hγ] at t1
  have γi : ∀ q s, ¬ (q = 51 ∧ s = 5) → ¬ (q = sc ∧ s = 5) → gI γ q s = gI σ q s := fun q s a1 a2 => by
    rw [hγ]
    show gI (sI (sI σ 51 5 w.2.2.2.2.1) sc 5 g) q s = _
    rw [gI_sI, if_neg a2, gI_sI, if_neg a1]
  have γ5 : gI γ 51 5 = w.2.2.2.2.1 := by
    rw [hγ]
    show gI (sI (sI σ 51 5 w.2.2.2.2.1) sc 5 g) 51 5 = _
    rw [gI_sI, if_neg (by omega), gI_sI, if_pos ⟨rfl, rfl⟩]
  have γs : gI γ sc 5 = g := by
    rw [hγ]
    show gI (sI (sI σ 51 5 w.2.2.2.2.1) sc 5 g) sc 5 = _
    rw [gI_sI, if_pos ⟨rfl, rfl⟩]
  have γl : ∀ q s, gL γ q s = gL σ q s := fun q s => by rw [hγ]; rfl
  have γr : ∀ q s, ¬ (q = 59 ∧ s = yM w) → gR γ q s = gR σ q s := fun q s a1 => by
    rw [hγ]
    show gR (sR (sI (sI σ 51 5 w.2.2.2.2.1) sc 5 g) 59 (yM w) (some sc)) q s = _
    rw [gR_sR, if_neg a1]
    rfl
  have γw : gR γ 59 (yM w) = some sc := by
    rw [hγ]
    show gR (sR (sI (sI σ 51 5 w.2.2.2.2.1) sc 5 g) 59 (yM w) (some sc)) 59 (yM w) = _
    rw [gR_sR, if_pos ⟨rfl, rfl⟩]
  have γk : γ.2.2.2 = σ.2.2.2 := by rw [hγ]; rfl
  -- the spare one
  obtain ⟨υ, u, t2, υi, υl, υr, υu, υk, po', pn', pg'⟩ : ∃ υ u, MM 36 [mR (some 39)] σ = some (some (mI 1), υ) ∧ (∀ q s, ¬ (nC σ ≤ q ∧ q < nC σ + 4) → ¬ (q = 39 ∧ s = 11) → ¬ (q = 51 ∧ s = 4) → ¬ (q = hc ∧ s = 5) → gI υ q s = gI γ q s) ∧ (∀ q s, ¬ (nC σ ≤ q ∧ q < nC σ + 4) → gL υ q s = gL σ q s) ∧ (∀ q s, ¬ (nC σ ≤ q ∧ q < nC σ + 4) → ¬ (q = 39 ∧ s = 15) → gR υ q s = gR γ q s) ∧ (gR υ 39 15 = some u ∧ gI υ 39 11 = (yM w : Int) + 1 ∧ gI υ 51 4 = max w.2.2.2.1 ((yM w : Int) + 1) ∧ gI υ hc 5 = n) ∧ (∀ q, ¬ (nC σ ≤ q ∧ q < nC σ + 4) → kd υ q = kd σ q) ∧ POOL υ ∧ PCN υ C ∧ pgr υ σ := by
    have hcn := pn.1 0 hc (by decide) (sR_z.trans l1)
    have scn := pn.1 1 sc (by decide) (sR_o.trans h15)
    cases e : gR σ 59 (yM w) with
    | some u =>
      rw [e] at t1
      have su := po.1 (252 + yM w) u (by omega) (sR_wt.trans e)
      have t2 : MM 36 [mR (some 39)] σ = some (some (mI 1), g2S γ hc u (yM w) w.2.2.2.1 n) := by
        rw [t1, e36_69, if_pos (show Option.isSome (some u) = true from rfl)]
        exact L36d (by rw [γr _ _ (by omega)]; exact l1) (st_r3 γk sh.1) ch (fun _ => by show (kd γ u).1 = 28; rw [kd_r3 γk, su.1.1]) ((γi _ _ (by omega) (by omega)).trans h11) hM ((γi _ _ (by omega) (by omega)).trans f4) ((γi _ _ (by omega) (by omega)).trans h4) h0
      obtain ⟨υ, hυ⟩ : ∃ υ, υ = g2S γ hc u (yM w) w.2.2.2.1 n := ⟨_, rfl⟩
      rw [← hυ] at t2
      have υr : ∀ q s, ¬ (q = 39 ∧ s = 15) → gR υ q s = gR γ q s := fun q s a1 => by
        rw [hυ]
        show gR (sR γ 39 15 (some u)) q s = _
        rw [gR_sR, if_neg a1]
      have r15 : gR υ 39 15 = some u := by
        rw [hυ]
        show gR (sR γ 39 15 (some u)) 39 15 = _
        rw [gR_sR, if_pos ⟨rfl, rfl⟩]
      have kk : υ.2.2.2 = σ.2.2.2 := by
        rw [hυ]
        exact γk
      have sl : ∀ s, s < 312 → ¬ s = 1 → ¬ s = 252 + yM w → slR υ s = slR σ s := fun s hs n1 n2 => by
        unfold slR
        rw [if_neg n1, if_neg n1, υr _ _ (by omega), υr _ _ (by omega), υr _ _ (by omega), γr _ _ (by omega), γr _ _ (by omega)]
        by_cases a : s = 0
        · rw [if_pos a, if_pos a]
        · rw [if_neg a, if_neg a]
          by_cases b : s < 252
          · rw [if_pos b, if_pos b]
          · rw [if_neg b, if_neg b, γr _ _ (by omega)]
      obtain ⟨q1, q2, q3⟩ := po_sw2 (a := 1) (b := 252 + yM w) po (by decide) (by omega) (by omega) sl (sR_o.trans h15) (sR_wt.trans e) (sR_o.trans r15) (by rw [sR_wt, υr _ _ (by omega), γw]) kk
      refine ⟨υ, u, t2, fun q s _ a1 a2 a3 => ?_, fun q s _ => ?_, fun q s _ => υr q s, ⟨r15, ?_, ?_, ?_⟩, fun q _ => kd_r3 kk q, q1, q2 C pn, q3⟩
      · rw [hυ, gI_sI, if_neg a3, gI_sI, if_neg a2, gI_sI, if_neg a1]
        rfl
      · rw [hυ]
        exact γl q s
      · rw [hυ, gI_sI, if_neg (by omega), gI_sI, if_neg (by omega), gI_sI, if_pos ⟨rfl, rfl⟩]
      · rw [hυ, gI_sI, if_neg (by omega), gI_sI, if_pos ⟨rfl, rfl⟩, mxI]
      · rw [hυ, gI_sI, if_pos ⟨rfl, rfl⟩]
    | none =>
      rw [e] at t1
      have nγ : nC γ = nC σ := nC_e γk
      have l6γ : nC γ + 4 ≤ 1000000 := by rw [nγ]; exact l6
      have pγ : 153 ≤ nC γ := by rw [nγ]; exact p153
      have na := al_st (σ := γ) pγ l6γ
      have ai : ∀ q s, ¬ (nC σ ≤ q ∧ q < nC σ + 4) → gI (alS γ) q s = gI γ q s := fun q s h => by rw [al_I, nγ, if_neg h]
      have al : ∀ q s, ¬ (nC σ ≤ q ∧ q < nC σ + 4) → gL (alS γ) q s = gL γ q s := fun q s h => by rw [al_L, nγ, if_neg h]
      have ar : ∀ q s, ¬ (nC σ ≤ q ∧ q < nC σ + 4) → gR (alS γ) q s = gR γ q s := fun q s h => by rw [al_R, nγ, if_neg h]
      have ak' : ∀ q, ¬ (nC σ ≤ q ∧ q < nC σ + 4) → kd (alS γ) q = kd σ q := fun q h => by rw [al_kd (by rw [nγ]; exact h), kd_r3 γk]
      rw [nγ] at na
      have sha : isSt (alS γ) hc := st_kd (fun q a1 a2 => ak' q (by omega)) sh.1
      have t2 : MM 36 [mR (some 39)] σ = some (some (mI 1), g2S (alS γ) hc (nC σ) (yM w) w.2.2.2.1 n) := by
        rw [t1, e36_69, if_neg (show ¬ Option.isSome (none : Option Nat) = true by decide), nγ]
        exact L36d (by rw [ar _ _ (by omega), γr _ _ (by omega)]; exact l1) sha ch (fun _ => by show (kd (alS γ) (nC σ)).1 = 28; rw [na.1]) ((ai _ _ (by omega)).trans ((γi _ _ (by omega) (by omega)).trans h11)) hM ((ai _ _ (by omega)).trans ((γi _ _ (by omega) (by omega)).trans f4)) ((ai _ _ (by omega)).trans ((γi _ _ (by omega) (by omega)).trans h4)) h0
      obtain ⟨υ, hυ⟩ : ∃ υ, υ = g2S (alS γ) hc (nC σ) (yM w) w.2.2.2.1 n := ⟨_, rfl⟩
      rw [← hυ] at t2
      have υr : ∀ q s, ¬ (nC σ ≤ q ∧ q < nC σ + 4) → ¬ (q = 39 ∧ s = 15) → gR υ q s = gR γ q s := fun q s a0 a1 => by
        rw [hυ]
        show gR (sR (alS γ) 39 15 (some (nC σ))) q s = _
        rw [gR_sR, if_neg a1]
        exact ar q s a0
      have r15 : gR υ 39 15 = some (nC σ) := by
        rw [hυ]
        show gR (sR (alS γ) 39 15 (some (nC σ))) 39 15 = _
        rw [gR_sR, if_pos ⟨rfl, rfl⟩]
      have kk : υ.2.2.2 = (alS γ).2.2.2 := by rw [hυ]; rfl
      have nυ : nC υ = nC σ + 4 := by
        rw [nC_e kk, al_C, nγ]
      have kr : ∀ q, ¬ (nC σ ≤ q ∧ q < nC σ + 4) → kd υ q = kd σ q := fun q h => (kd_r3 kk q).trans (ak' q h)
      have sl : ∀ s, s < 312 → ¬ s = 1 → slR υ s = slR σ (if s = 252 + yM w then 1 else s) := fun s hs n1 => by
        by_cases n2 : s = 252 + yM w
        · rw [if_pos n2, n2, sR_wt, υr _ _ (by omega) (by omega), γw, sR_o, h15]
        · rw [if_neg n2]
          unfold slR
          rw [if_neg n1, if_neg n1, υr _ _ (by omega) (by omega), υr _ _ (by omega) (by omega), υr _ _ (by omega) (by omega), γr _ _ (by omega), γr _ _ (by omega)]
          by_cases a : s = 0
          · rw [if_pos a, if_pos a]
          · rw [if_neg a, if_neg a]
            by_cases b : s < 252
            · rw [if_pos b, if_pos b]
            · rw [if_neg b, if_neg b, γr _ _ (by omega)]
      have ct : cnt 312 (fun s => (slR υ s).isSome) = cnt 312 (fun s => (slR σ s).isSome) + 1 := cnt_upd (k := 252 + yM w) 312 (by omega) (fun j hj hn => by
        show (slR υ j).isSome = (slR σ j).isSome
        by_cases j1 : j = 1
        · rw [j1, sR_o, sR_o, r15, h15]
          rfl
        · rw [sl j hj j1, if_neg hn]) (by
        show (slR υ (252 + yM w)).isSome = true
        rw [sl _ (by omega) (by omega), if_pos rfl, sR_o, h15]
        rfl) (by
        show (slR σ (252 + yM w)).isSome = false
        rw [sR_wt, e]
        rfl)
      have snυ : isSt υ (nC σ) := st_r3 kk na
      obtain ⟨q1, q2, q3⟩ := po_gen (π := fun s => if s = 252 + yM w then 1 else s) (a := 1) po pn (fun s hs => by
        show (if s = 252 + yM w then 1 else s) < 312
        split <;> omega) (fun s s' hs hs' n1 n2 z => by
        have z : (if s = 252 + yM w then 1 else s) = (if s' = 252 + yM w then 1 else s') := z
        by_cases a : s = 252 + yM w
        · rw [if_pos a] at z
          by_cases b : s' = 252 + yM w
          · omega
          · rw [if_neg b] at z
            omega
        · rw [if_neg a] at z
          by_cases b : s' = 252 + yM w
          · rw [if_pos b] at z
            omega
          · rw [if_neg b] at z
            exact z) sl (sR_o.trans r15) ⟨nυ, by rw [tS_e kk]; show tS γ + 1267 = _; rw [tS_e γk]⟩ kr snυ ct
      refine ⟨υ, nC σ, t2, fun q s a0 a1 a2 a3 => ?_, fun q s a0 => ?_, υr, ⟨r15, ?_, ?_, ?_⟩, kr, q1, q2, q3⟩
      · rw [hυ, gI_sI, if_neg a3, gI_sI, if_neg a2, gI_sI, if_neg a1]
        exact ai q s a0
      · rw [hυ]
        exact (al q s a0).trans (γl q s)
      · rw [hυ, gI_sI, if_neg (by omega), gI_sI, if_neg (by omega), gI_sI, if_pos ⟨rfl, rfl⟩]
      · rw [hυ, gI_sI, if_neg (by omega), gI_sI, if_pos ⟨rfl, rfl⟩, mxI]
      · rw [hυ, gI_sI, if_pos ⟨rfl, rfl⟩]
  -- the rest stays
  have old : ∀ s c, s < 312 → slR σ s = some c → c + 3 < nC σ := pn.1
  have hcn := old 0 hc (by decide) (sR_z.trans l1)
  have scn := old 1 sc (by decide) (sR_o.trans h15)
  have i5 : ∀ q s, ¬ (nC σ ≤ q ∧ q < nC σ + 4) → ¬ (q = 39 ∧ s = 11) → ¬ (q = 51 ∧ (s = 4 ∨ s = 5)) → ¬ ((q = hc ∨ q = sc) ∧ s = 5) → gI υ q s = gI σ q s := fun q s a0 a1 a2 a3 => (υi q s a0 a1 (by omega) (by omega)).trans (γi q s (by omega) (by omega))
  have r5 : ∀ q s, ¬ (nC σ ≤ q ∧ q < nC σ + 4) → ¬ (q = 39 ∧ s = 15) → ¬ (q = 59 ∧ s = yM w) → gR υ q s = gR σ q s := fun q s a0 a1 a2 => (υr q s a0 a1).trans (γr q s a2)
  have sm : ∀ s c, s < 312 → 2 ≤ s → slR σ s = some c → same υ σ c := fun s c hs s2 e => by
    have y := (po.1 s c hs e).2
    have cn := old s c hs e
    unfold isCl at y
    have d1 := po.2 s 0 c hc hs (by decide) (by omega) e (sR_z.trans l1)
    have d2 := po.2 s 1 c sc hs (by decide) (by omega) e (sR_o.trans h15)
    exact ⟨fun q s q1 q2 => ⟨i5 q s (by omega) (by omega) (by omega) (by omega), υl q s (by omega), r5 q s (by omega) (by omega) (by omega)⟩, fun z => st_kd (fun q a1 a2 => υk q (by omega)) z⟩
  have nh : ∀ q, oth σ q → (¬ (hc ≤ q ∧ q < hc + 4) ∧ ¬ (sc ≤ q ∧ q < sc + 4)) ∧ ¬ (nC σ ≤ q ∧ q < nC σ + 4) := fun q o => ⟨⟨o.2 0 hc (by decide) (sR_z.trans l1), o.2 1 sc (by decide) (sR_o.trans h15)⟩, by
    have := o.1
    omega⟩
  have eH : ∀ j, kS (upK (yH w) (yK w) (kS (yH w (yK w)), kA (yH w (yK w)), kB (yH w (yK w)), kF (yH w (yK w)), kW (yH w (yK w)) + 1, kL (yH w (yK w))) j) = kS (yH w j) ∧ kA (upK (yH w) (yK w) (kS (yH w (yK w)), kA (yH w (yK w)), kB (yH w (yK w)), kF (yH w (yK w)), kW (yH w (yK w)) + 1, kL (yH w (yK w))) j) = kA (yH w j) ∧ kB (upK (yH w) (yK w) (kS (yH w (yK w)), kA (yH w (yK w)), kB (yH w (yK w)), kF (yH w (yK w)), kW (yH w (yK w)) + 1, kL (yH w (yK w))) j) = kB (yH w j) ∧ kF (upK (yH w) (yK w) (kS (yH w (yK w)), kA (yH w (yK w)), kB (yH w (yK w)), kF (yH w (yK w)), kW (yH w (yK w)) + 1, kL (yH w (yK w))) j) = kF (yH w j) ∧ kL (upK (yH w) (yK w) (kS (yH w (yK w)), kA (yH w (yK w)), kB (yH w (yK w)), kF (yH w (yK w)), kW (yH w (yK w)) + 1, kL (yH w (yK w))) j) = kL (yH w j) := fun j => by
    by_cases e : j = yK w
    · rw [e, up_e]
      exact ⟨rfl, rfl, rfl, rfl, rfl⟩
    · rw [up_n e]
      exact ⟨rfl, rfl, rfl, rfl, rfl⟩
  have dw := df_w (x := (kS (yH w (yK w)), kA (yH w (yK w)), kB (yH w (yK w)), kF (yH w (yK w)), kW (yH w (yK w)) + 1, kL (yH w (yK w)))) (v := (S2, g, yK w, yF w)) (s := S1) (i := n) (F := yF w) (G := yG w) (T := yT w) (R := (max w.2.2.2.1 ((yM w : Int) + 1), w.2.2.2.2.1, w.2.2.2.2.2)) df hM rfl rfl rfl
  have hk2 := CWk_s (τ := υ) hk (fun k hkN => sm (2 + k) _ (by omega) (by omega) ((sR_kp (by omega)).trans (hk.1 k hkN))) (fun q s a1 a2 a3 => r5 q s (by omega) (by omega) (by omega))
  have hw2 := CWw_s (τ := υ) hw (fun j hj => sm (252 + j) _ (by omega) (by omega) (sR_wt.trans (hw j hj).1.1)) (fun j hj => r5 _ _ (by omega) (by omega) (by omega))
  generalize upK (yH w) (yK w) (kS (yH w (yK w)), kA (yH w (yK w)), kB (yH w (yK w)), kF (yH w (yK w)), kW (yH w (yK w)) + 1, kL (yH w (yK w))) = K2 at *
  obtain ⟨u1, u2, u3, u4⟩ := υu
  obtain ⟨k1, ⟨k2, k3⟩, k4, k5⟩ := hk2
  refine okc_o (τ := υ) t2 ⟨⟨fun q s o p => ?_, fun q o => υk q (nh q o).2, pg'⟩, i5 _ _ (by omega) (by omega) (by omega) (by omega), cf, (fun j => if j = yM w then sc else wf j), D, hc, ⟨dw, ⟨po', pn', u, u1⟩, ⟨k1, ⟨fun k hkN => ?_, fun k hkN => ?_⟩, fun x hx => ?_, fun a ha => ?_⟩, fun j hj => ?_, ⟨(r5 _ _ (by omega) (by omega) (by omega)).trans l1, (i5 hc 7 (by omega) (by omega) (by omega) (by omega)).trans l2, (r5 hc 6 (by omega) (by omega) (by omega)).trans l3⟩, ?_, ⟨⟨(i5 _ _ (by omega) (by omega) (by omega) (by omega)).trans f1, (i5 _ _ (by omega) (by omega) (by omega) (by omega)).trans f2, u3, ?_⟩, (i5 _ _ (by omega) (by omega) (by omega) (by omega)).trans f8, KN_c (fun s => i5 _ _ (by omega) (by omega) (by omega) (by omega)) (fun s => υl _ _ (by omega)) fk⟩⟩, ?_, u4⟩
  · have o' := nh q o
    exact ⟨i5 q s o'.2 (by omega) (by omega) (by omega), υl q s o'.2, r5 q s o'.2 (by omega) (by omega)⟩
  · obtain ⟨e1, e2, e3, e4, e5⟩ := eH k
    have z := k2 k hkN
    show (isSt υ (cf k) ∧ stC (cf k)) ∧ CSt υ (cf k) (kS (K2 k)) ∧ (gI υ (cf k) 5 = kA (K2 k) ∧ gI υ (cf k) 7 = kF (K2 k) ∧ gI υ (cf k) 9 = kL (K2 k) ∧ gI υ (cf k) 10 = (if D k = true then 1 else 0)) ∧ gR υ (cf k) 6 = (if 0 ≤ kB (K2 k) then some (cf (kB (K2 k)).toNat) else none)
    rw [e1, e2, e3, e4, e5]
    exact z
  · show gR υ (cf k) 8 = (fnd (fun j => decide (kA (K2 j) = kA (K2 k))) (yNn w - (k + 1)) (k + 1)).map cf
    rw [(eH k).2.1, lst_e (fun j => (eH j).2.1)]
    exact k3 k hkN
  · show D x = true ↔ ¬ x ∈ cha K2 (yK w)
    rw [show cha K2 (yK w) = cha (yH w) (yK w) from chn_e (fun j => (eH j).2.2.1) _ _]
    exact k4 x hx
  · show gR υ 60 a = (fnd (fun j => decide (kA (K2 j) = (a : Int))) (yNn w) 0).map cf ∧ gR υ 61 a = (lnd (fun j => decide (kA (K2 j) = (a : Int))) (yNn w)).map cf
    rw [lst_e (fun j => (eH j).2.1), lsl_e (fun j => (eH j).2.1)]
    exact k5 a ha
  · have hj : j < yM w + 1 := hj
    show (gR υ 59 j = some (if j = yM w then sc else wf j) ∧ CSt υ (if j = yM w then sc else wf j) (if j = yM w then (S2, g, yK w, yF w) else yW w j).1) ∧ gI υ (if j = yM w then sc else wf j) 5 = (if j = yM w then (S2, g, yK w, yF w) else yW w j).2.1 ∧ gI υ (if j = yM w then sc else wf j) 7 = (if j = yM w then (S2, g, yK w, yF w) else yW w j).2.2.2 ∧ gR υ (if j = yM w then sc else wf j) 6 = some (cf (if j = yM w then (S2, g, yK w, yF w) else yW w j).2.2.1)
    by_cases e : j = yM w
    · rw [if_pos e, if_pos e]
      refine ⟨⟨by rw [e, υr _ _ (by omega) (by omega)]; exact γw, ?_⟩, (υi _ _ (by omega) (by omega) (by omega) (by omega)).trans γs, (i5 _ _ (by omega) (by omega) (by omega) (by omega)).trans s7, (r5 _ _ (by omega) (by omega) (by omega)).trans s6⟩
      exact CSt_h (i5 _ _ (by omega) (by omega) (by omega) (by omega)) (i5 _ _ (by omega) (by omega) (by omega) (by omega)) (fun s => i5 _ _ (by omega) (by omega) (by omega) (by omega)) (fun s => i5 _ _ (by omega) (by omega) (by omega) (by omega)) (fun s => υl _ _ (by omega)) c2
    · rw [if_neg e, if_neg e]
      exact hw2 j (by omega)
  · show gI υ 39 11 = ((yM w + 1 : Nat) : Int)
    rw [u2]
    rfl
  · exact (υi _ _ (by omega) (by omega) (by omega) (by omega)).trans γ5
  · exact CSt_h (i5 _ _ (by omega) (by omega) (by omega) (by omega)) (i5 _ _ (by omega) (by omega) (by omega) (by omega)) (fun s => i5 _ _ (by omega) (by omega) (by omega) (by omega)) (fun s => i5 _ _ (by omega) (by omega) (by omega) (by omega)) (fun s => υl _ _ (by omega)) c1
end CGO3
