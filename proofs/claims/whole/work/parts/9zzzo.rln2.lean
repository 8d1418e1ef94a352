/-! ===== the reference: a line, whole ===== -/
section RLM
variable {t : Nat → Int} {n i j k m u M : Nat} {σ τ ρ υ : MS} {c d e o w x x1 x2 x3 x4 y f g B : Int} {v : B64} {T : TK} {r : SR} {s : RD}
theorem upd_R {q : SR × Nat} (h : rdS t n σ s) (f : rfs τ σ) (a : gI τ 80 16 = ((s.2.2.1.1 + snW q.1 : Nat) : Int)) (b : gL τ 86 s.2.2.1.1 = srW q.1) (c : ¬ q.1.2.1.2.2 = 0 → gL τ 86 (s.2.2.1.1 + 1) = q.1.2.1.2.1) (d : ∀ i, i < s.2.2.1.1 → gL τ 86 i = gL σ 86 i) (l : lnR t n τ σ q.1.2.2 (wdO q.1.1.1)) : rdS t n τ (updS s q) := by
  obtain ⟨⟨a1, a2⟩, ⟨b1, b2⟩, ⟨c1, c2⟩⟩ := h
  refine ⟨⟨(f.1 _ _ (by omega) (by omega)).trans a1, fun l hl => ?_⟩, ?_, ⟨a, fun i hi => ?_⟩⟩
  · obtain ⟨d1, d2, d3⟩ := a2 l hl
    exact ⟨(f.1 _ _ (by omega) (by omega)).trans d1, (f.1 _ _ (by omega) (by omega)).trans d2, (f.1 _ _ (by omega) (by omega)).trans d3⟩
  · unfold updS
    cases hq : q.1.2.2 with
    | none =>
      rw [hq] at l
      refine ⟨l.2.trans b1, fun u hu => ?_⟩
      obtain ⟨d1, d2, d3, d4⟩ := b2 u hu
      exact ⟨(l.1 _ _ (by omega) (by omega)).trans d1, (l.1 _ _ (by omega) (by omega)).trans d2, (l.1 _ _ (by omega) (by omega)).trans d3, (l.1 _ _ (by omega) (by omega)).trans d4⟩
    | some j =>
      rw [hq] at l
      obtain ⟨l1, l2, l3, l4, l5, l6⟩ := l
      rw [b1, Int.toNat_natCast] at l2 l3 l4 l5 l6
      refine ⟨l1.trans (by rw [b1]; rfl), fun u hu => ?_⟩
      have hu : u < s.2.1.1 + 1 := hu
      show gI τ 90 u = (((if u = s.2.1.1 then (j, s.2.2.1.1, wdO q.1.1.1) else s.2.1.2 u).2.1 : Nat) : Int) ∧ gI τ 91 u = (tB (tks t n (if u = s.2.1.1 then (j, s.2.2.1.1, wdO q.1.1.1) else s.2.1.2 u).1) : Int) ∧ gI τ 92 u = ((tE (tks t n (if u = s.2.1.1 then (j, s.2.2.1.1, wdO q.1.1.1) else s.2.1.2 u).1) - tB (tks t n (if u = s.2.1.1 then (j, s.2.2.1.1, wdO q.1.1.1) else s.2.1.2 u).1) : Nat) : Int) ∧ gI τ 93 u = (if u = s.2.1.1 then (j, s.2.2.1.1, wdO q.1.1.1) else s.2.1.2 u).2.2
      by_cases eu : u = s.2.1.1
      · rw [if_pos eu, eu]
        exact ⟨l2.trans c1, l3, l4, l5⟩
      · rw [if_neg eu]
        obtain ⟨d1, d2, d3, d4⟩ := b2 u (by omega)
        exact ⟨(l6 _ _ (by omega) (by omega) eu).trans d1, (l6 _ _ (by omega) (by omega) eu).trans d2, (l6 _ _ (by omega) (by omega) eu).trans d3, (l6 _ _ (by omega) (by omega) eu).trans d4⟩
  · have hi : i < s.2.2.1.1 + snW q.1 := hi
    show gL τ 86 i = if i = s.2.2.1.1 then srW q.1 else if i = s.2.2.1.1 + 1 ∧ ¬ q.1.2.1.2.2 = 0 then q.1.2.1.2.1 else s.2.2.1.2 i
    by_cases e1 : i = s.2.2.1.1
    · rw [if_pos e1, e1, b]
    · rw [if_neg e1]
      by_cases e2 : i = s.2.2.1.1 + 1 ∧ ¬ q.1.2.1.2.2 = 0
      · rw [if_pos e2, e2.1]
        exact c e2.2
      · rw [if_neg e2]
        have hi2 : i < s.2.2.1.1 := by
          unfold snW at hi
          by_cases z : q.1.2.1.2.2 = 0
          · rw [if_pos z] at hi; omega
          · rw [if_neg z] at hi
            have : ¬ i = s.2.2.1.1 + 1 := fun y => e2 ⟨y, z⟩
            omega
        rw [d i hi2]
        exact c2 i hi2
/-- a statement at the beginning of a line, or behind a label -/
theorem L368 (h : RG ρ t n s.2.2.2) (hr : rdS t n ρ s) (h2 : s.2.2.1.1 ≤ 200 ∧ s.2.1.1 ≤ s.2.2.1.1) (f : rfa ρ σ) : okc (RR (lkB tb368) (B368_157, [some (mR (some 80)), none, none, none], [], ρ)) none (fun τ => oR (pSta t (tks t n) s) (fun e => rfa τ σ ∧ gI τ 80 14 = e ∧ 0 ≤ e) (fun s' => rfa τ σ ∧ rdS t n τ s' ∧ RG τ t n s'.2.2.2)) := by
  rw [e368_157]
  refine okc_b (T370 (u := s.2.1.1) (M := s.2.2.1.1) h hr.2.1.1 (by omega) hr.2.2.1 h2.1) fun τ p => ?_
  show okc (RR (lkB tb368) (B368_161, [some (mR (some 80)), none, none, none], [], τ)) none _
  rw [e368_161]
  refine okc_s ?_
  unfold pSta
  cases hp : pSt2 t (tks t n) s.2.2.1.1 s.2.2.2 with
  | inl e =>
    rw [hp] at p
    exact ⟨rfa_t (rfa_f p.1) f, p.2⟩
  | inr q =>
    rw [hp] at p
    obtain ⟨p1, p2, p3, p4, p5, p6, p7⟩ := p
    exact ⟨rfa_t (rfa_s p1) f, upd_R hr p1 p3 p4 p5 p6 p7, p2⟩
theorem tok_2 (h : tK (tok t n j) = 2) : isLt (pk t n j) := by
  unfold tok at h
  split at h
  · cases h
  · split at h
    · cases h
    · split at h
      · assumption
      · split at h
        · cases h
        · rcases sgT_k (c := pk t n j) (d := pk t n (j + 1)) (e := pk t n (j + 2)) (j := j) with q | q <;> rw [q] at h <;> cases h
theorem tks_at : tok t n (tB (tks t n k)) = tks t n k := by
  obtain ⟨j, -, e⟩ := tks_t (t := t) (n := n) k
  rw [e, tok_b]
theorem beg_nm (h : tK (tks t n k) = 2) : beg t n (tB (tks t n k)) = tB (tks t n k) := by
  have l : isLt (pk t n (tB (tks t n k))) := tok_2 (by rw [tks_at]; exact h)
  exact beg_id (by rcases l with l | l | l <;> omega) (by rcases l with l | l | l <;> omega)
/-- a line -/
theorem T368 (h : RG σ t n s.2.2.2) (hr : rdS t n σ s) (hi : invL (tks t n) s) : okc (MM 368 [mR (some 80)] σ) none (fun τ => oR (pLin t (tks t n) s) (fun e => rfa τ σ ∧ gI τ 80 14 = e ∧ 0 ≤ e) (fun s' => rfa τ σ ∧ rdS t n τ s' ∧ RG τ t n s'.2.2.2)) := by
  obtain ⟨k, hk⟩ : ∃ k, k = s.2.2.2 := ⟨_, rfl⟩
  have n4 := h.1.2.1
  have le := tks_le (t := t) (n := n) s.2.2.2
  have hL : s.1.1 < 1399 := by have := hi.2.2; omega
  unfold pLin
  rw [M368, e368_0, RG_9 h]
  by_cases c1 : tK (tks t n s.2.2.2) = 1
  · rw [if_neg (fun z => z c1), if_pos c1]
    exact okc_s ⟨rfa_r _, hr, h⟩
  · rw [if_pos c1, if_neg c1]
    have st := L368 h hr ⟨hi.1, hi.2.1⟩ (rfa_r σ)
    by_cases c2 : tK (tks t n s.2.2.2) = 2
    · rw [if_neg (fun z => z c2), T364 h]
      simp only [Option.bind_some, Option.toList_some, Option.toList_none, List.cons_append, List.nil_append]
      rw [e368_21]
      by_cases cr : 0 ≤ rgR t (tks t n s.2.2.2)
      · rw [if_pos cr, if_neg (show ¬ ((tK (tks t n s.2.2.2) = 2 ∧ rgR t (tks t n s.2.2.2) < 0) ∧ sgn (tks t n) 58 (s.2.2.2 + 1)) from fun z => by have := z.1.2; omega)]
        exact st
      · have l8 := RG_8 h (by rw [c2]; decide)
        have l10 := RG_10 h
        obtain ⟨a, ha⟩ : ∃ a : Nat, a = tB (tks t n s.2.2.2) := ⟨_, rfl⟩
        obtain ⟨b, hb⟩ : ∃ b : Nat, b = tE (tks t n s.2.2.2) := ⟨_, rfl⟩
        rw [if_neg cr, l8, l10, w32_sub le.1 (by omega), ← ha, ← hb]
        refine okc_b (A355 h (by rw [c2]; decide)) fun τ1 p1 => ?_
        show okc (RR (lkB tb368) (B368_48, [some (mR (some 80)), some (mI (a : Int)), some (mI ((b - a : Nat) : Int)), some (mI (b : Int))], [], τ1)) none _
        have g1 := p1.2
        have r1 := rdS_W hr p1.1
        rw [e368_48, T360 g1]
        simp only [Option.bind_some, Option.toList_some, Option.toList_none, List.cons_append, List.nil_append]
        rw [e368_54]
        by_cases c58 : sgn (tks t n) 58 (s.2.2.2 + 1)
        · have t65 := T365 (k := s.2.2.2) g1.1 r1 (by omega)
          rw [← ha, ← hb] at t65
          rw [b2_yes c58, if_neg n10, t65, if_pos (show (tK (tks t n s.2.2.2) = 2 ∧ rgR t (tks t n s.2.2.2) < 0) ∧ sgn (tks t n) 58 (s.2.2.2 + 1) from ⟨⟨c2, by omega⟩, c58⟩)]
          simp only [Option.bind_some, Option.toList_some, Option.toList_none, List.cons_append, List.nil_append]
          rw [e368_63]
          cases hl : labX t (tks t n) s s.2.2.2 with
          | some l =>
            have nl : ¬ ioN (some l) < 0 := by
              show ¬ (l : Int) < 0
              omega
            rw [if_neg nl, T359g g1.2.2]
            simp only [Option.bind_some, Option.toList_some, Option.toList_none, List.cons_append, List.nil_append]
            rw [e368_71]
            refine okc_s ⟨rfa_t (rfa_f rfr_14) (rfa_W p1.1), ?_, ?_⟩
            · rw [fS_, ha]
            · show (0 : Int) ≤ (a : Int)
              omega
          | none =>
            have yl : ioN none < 0 := by decide
            have a20 : gI τ1 80 20 = (s.1.1 : Int) := r1.1.1
            have b20 : gI (sI τ1 87 s.1.1 (a : Int)) 80 20 = (s.1.1 : Int) := by rw [gI_sI, if_neg (by omega)]; exact a20
            have c20 : gI (sI (sI τ1 87 s.1.1 (a : Int)) 88 s.1.1 ((b - a : Nat) : Int)) 80 20 = (s.1.1 : Int) := by rw [gI_sI, if_neg (by omega)]; exact b20
            have c16 : gI (sI (sI τ1 87 s.1.1 (a : Int)) 88 s.1.1 ((b - a : Nat) : Int)) 80 16 = (s.2.2.1.1 : Int) := by rw [gI_sI, if_neg (by omega), gI_sI, if_neg (by omega)]; exact r1.2.2.1
            have d20 : gI (sI (sI (sI τ1 87 s.1.1 (a : Int)) 88 s.1.1 ((b - a : Nat) : Int)) 89 s.1.1 (s.2.2.1.1 : Int)) 80 20 = (s.1.1 : Int) := by rw [gI_sI, if_neg (by omega)]; exact c20
            rw [if_pos yl, a20, if_pos (g87 (by omega)), Int.toNat_natCast, b20, if_pos (g88 (by omega)), Int.toNat_natCast, c20, if_pos (g89 (by omega)), Int.toNat_natCast, c16, e368_105, d20, w32_s1 (show s.1.1 < 100000 by omega)]
            obtain ⟨ρ, hρ⟩ : ∃ ρ, ρ = sI (sI (sI (sI τ1 87 s.1.1 (a : Int)) 88 s.1.1 ((b - a : Nat) : Int)) 89 s.1.1 (s.2.2.1.1 : Int)) 80 20 ((s.1.1 + 1 : Nat) : Int) := ⟨_, rfl⟩
            have eo : ∀ k s', ¬ (87 ≤ k ∧ k ≤ 89) → ¬ (k = 80 ∧ s' = 20) → gI ρ k s' = gI τ1 k s' := fun k s' z1 z2 => by
              rw [hρ, gI_sI, if_neg z2, gI_sI, if_neg (by omega), gI_sI, if_neg (by omega), gI_sI, if_neg (by omega)]
            have eL : ∀ k s', gL ρ k s' = gL τ1 k s' := fun k s' => by rw [hρ]; rfl
            have e2 : ρ.2.2 = τ1.2.2 := by rw [hρ]; rfl
            have gρ : RG ρ t n (s.2.2.2 + 1) := RG_q g1 (fun s' z => eo _ _ (by omega) (by omega)) (eL _ _) (fun s' => eo _ _ (by omega) (by omega))
            have fρ : rfa ρ σ := rfa_t ⟨fun k s' z1 z2 => eo _ _ (by omega) (by omega), fun k s' _ _ => eL _ _, e2⟩ (rfa_W p1.1)
            have rρ : rdS t n ρ (addL s) := by
              obtain ⟨⟨a1, a2⟩, ⟨b1, b2⟩, ⟨c1, c2⟩⟩ := r1
              refine ⟨⟨by rw [hρ]; exact fS_, fun l hl => ?_⟩, ⟨(eo _ _ (by omega) (by omega)).trans b1, fun u hu => ?_⟩, ⟨(eo _ _ (by omega) (by omega)).trans c1, fun i hi => (eL _ _).trans (c2 i hi)⟩⟩
              · have hl : l < s.1.1 + 1 := hl
                show gI ρ 87 l = (tB (tks t n (if l = s.1.1 then (s.2.2.2, s.2.2.1.1) else s.1.2 l).1) : Int) ∧ gI ρ 88 l = ((tE (tks t n (if l = s.1.1 then (s.2.2.2, s.2.2.1.1) else s.1.2 l).1) - tB (tks t n (if l = s.1.1 then (s.2.2.2, s.2.2.1.1) else s.1.2 l).1) : Nat) : Int) ∧ gI ρ 89 l = (((if l = s.1.1 then (s.2.2.2, s.2.2.1.1) else s.1.2 l).2 : Nat) : Int)
                by_cases el : l = s.1.1
                · rw [if_pos el, el]
                  refine ⟨?_, ?_, ?_⟩
                  · rw [hρ, gI_sI, if_neg (by omega), gI_sI, if_neg (by omega), gI_sI, if_neg (by omega), gI_sI, if_pos ⟨rfl, rfl⟩, ha]
                  · rw [hρ, gI_sI, if_neg (by omega), gI_sI, if_neg (by omega), gI_sI, if_pos ⟨rfl, rfl⟩, ha, hb]
                  · rw [hρ, gI_sI, if_neg (by omega), gI_sI, if_pos ⟨rfl, rfl⟩]
                · rw [if_neg el]
                  obtain ⟨d1, d2, d3⟩ := a2 l (by omega)
                  refine ⟨?_, ?_, ?_⟩
                  · rw [hρ, gI_sI, if_neg (by omega), gI_sI, if_neg (by omega), gI_sI, if_neg (by omega), gI_sI, if_neg (by omega)]; exact d1
                  · rw [hρ, gI_sI, if_neg (by omega), gI_sI, if_neg (by omega), gI_sI, if_neg (by omega), gI_sI, if_neg (by omega)]; exact d2
                  · rw [hρ, gI_sI, if_neg (by omega), gI_sI, if_neg (by omega), gI_sI, if_neg (by omega), gI_sI, if_neg (by omega)]; exact d3
              · obtain ⟨d1, d2, d3, d4⟩ := b2 u hu
                exact ⟨(eo _ _ (by omega) (by omega)).trans d1, (eo _ _ (by omega) (by omega)).trans d2, (eo _ _ (by omega) (by omega)).trans d3, (eo _ _ (by omega) (by omega)).trans d4⟩
            rw [← hρ]
            refine okc_b (A355 gρ (by rw [c58.1]; decide)) fun τ2 p2 => ?_
            show okc (RR (lkB tb368) (B368_119, [some (mR (some 80)), some (mI (a : Int)), some (mI ((b - a : Nat) : Int)), some (mI (b : Int))], [], τ2)) none (fun τ => oR (if tK (tks t n (s.2.2.2 + 2)) = 1 ∨ tK (tks t n (s.2.2.2 + 2)) = 0 then .inr (addL s) else pSta t (tks t n) (addL s)) (fun e => rfa τ σ ∧ gI τ 80 14 = e ∧ 0 ≤ e) (fun s' => rfa τ σ ∧ rdS t n τ s' ∧ RG τ t n s'.2.2.2))
            have g2 : RG τ2 t n (s.2.2.2 + 2) := p2.2
            have r2 := rdS_W rρ p2.1
            have f2 := rfa_t (rfa_W p2.1) fρ
            rw [e368_119, RG_9 g2]
            by_cases d1 : tK (tks t n (s.2.2.2 + 2)) = 1
            · rw [if_pos d1, if_pos (Or.inl d1)]
              exact okc_s ⟨f2, r2, g2⟩
            · rw [if_neg d1]
              by_cases d0 : tK (tks t n (s.2.2.2 + 2)) = 0
              · rw [if_neg (fun z => z d0), if_pos (Or.inr d0)]
                exact okc_s ⟨f2, r2, g2⟩
              · rw [if_pos d0, if_neg (show ¬ (tK (tks t n (s.2.2.2 + 2)) = 1 ∨ tK (tks t n (s.2.2.2 + 2)) = 0) from fun z => z.elim d1 d0)]
                exact okc_q (by repeat (first | exact lq_nil | refine lq_cons (Or.inr rfl) ?_ | refine lq_cons (Or.inl rfl) ?_)) (L368 (s := addL s) g2 r2 ⟨hi.1, hi.2.1⟩ f2)
        · rw [b2_no c58, if_pos y00, if_neg (show ¬ ((tK (tks t n s.2.2.2) = 2 ∧ rgR t (tks t n s.2.2.2) < 0) ∧ sgn (tks t n) 58 (s.2.2.2 + 1)) from fun z => c58 z.2)]
          -- it is read again
          have q1 : rTx (sI τ1 80 8 (a : Int)) t n := rTx_8 g1.1
          have t355 := T355 (i := a) q1 at8 (by omega)
          refine okc_b t355 fun τ2 p2 => ?_
          have f8 : rqW (sI τ1 80 8 (a : Int)) τ1 := ⟨fun k s' z => by rw [gI_sI, if_neg (by omega)], fun _ _ _ => rfl, rfl⟩
          have f2 : rqW τ2 σ := rqW_t (rqW_L p2.1) (rqW_t f8 p1.1)
          have g2 : RG τ2 t n s.2.2.2 := by
            refine ⟨rTx_W h.1 f2, ?_, ?_⟩
            · have e := p2.2
              rw [ha, beg_nm c2, tks_at] at e
              exact e
            · rw [p2.1.1 _ _ (by omega), gI_sI, if_neg (by omega)]
              exact g1.2.2
          show okc (RR (lkB tb368) (B368_144, [some (mR (some 80)), some (mI (a : Int)), some (mI ((b - a : Nat) : Int)), some (mI (b : Int))], [], τ2)) none _
          rw [e368_144]
          obtain ⟨w1, w2⟩ := T369 g2 (by omega)
          by_cases cw : isWd t (tks t n s.2.2.2)
          · rw [w1 cw]
            simp only [Option.bind_some, Option.toList_some, Option.toList_none, List.cons_append, List.nil_append]
            rw [e368_148, if_pos n10]
            exact okc_q (by repeat (first | exact lq_nil | refine lq_cons (Or.inr rfl) ?_ | refine lq_cons (Or.inl rfl) ?_)) (L368 g2 (rdS_W hr f2) ⟨hi.1, hi.2.1⟩ (rfa_W f2))
          · rw [w2 cw]
            simp only [Option.bind_some, Option.toList_some, Option.toList_none, List.cons_append, List.nil_append]
            rw [e368_148, if_neg (fun z => z y00), T359g g2.2.2]
            simp only [Option.bind_some, Option.toList_some, Option.toList_none, List.cons_append, List.nil_append]
            rw [e368_156]
            refine okc_s ?_
            have pe : pSta t (tks t n) s = .inl (tB (tks t n s.2.2.2) : Int) := by
              unfold pSta pSt2 pStm
              have n42 : ¬ sgn (tks t n) 42 s.2.2.2 := fun z => absurd (c2.symm.trans z.1) (by decide)
              have nn : ∀ j, (nmP' t (tks t n s.2.2.2) j → isWd t (tks t n s.2.2.2)) → ¬ nmP' t (tks t n s.2.2.2) j := fun j z y => cw (z y)
              rw [if_neg cr, if_neg n42, if_neg (nn 51 (fun y => Or.inl y)), if_neg (nn 52 (fun y => Or.inr (Or.inl y))), if_neg (nn 53 (fun y => Or.inr (Or.inr (Or.inl y)))), if_neg (nn 54 (fun y => Or.inr (Or.inr (Or.inr (Or.inl y))))), if_neg (nn 17 (fun y => Or.inr (Or.inr (Or.inr (Or.inr (Or.inl y)))))), if_neg (nn 55 (fun y => Or.inr (Or.inr (Or.inr (Or.inr (Or.inr (Or.inl y))))))), if_neg (nn 56 (fun y => Or.inr (Or.inr (Or.inr (Or.inr (Or.inr (Or.inr (Or.inl y)))))))), if_neg (nn 57 (fun y => Or.inr (Or.inr (Or.inr (Or.inr (Or.inr (Or.inr (Or.inr (Or.inl y))))))))), if_neg (nn 58 (fun y => Or.inr (Or.inr (Or.inr (Or.inr (Or.inr (Or.inr (Or.inr (Or.inr (Or.inl y)))))))))), if_neg (nn 59 (fun y => Or.inr (Or.inr (Or.inr (Or.inr (Or.inr (Or.inr (Or.inr (Or.inr (Or.inr y))))))))))]
              rfl
            rw [pe]
            refine ⟨rfa_t (rfa_f rfr_14) (rfa_W f2), ?_, ?_⟩
            · rw [fS_, ha]
            · omega
    · rw [if_pos c2, if_neg (show ¬ ((tK (tks t n s.2.2.2) = 2 ∧ rgR t (tks t n s.2.2.2) < 0) ∧ sgn (tks t n) 58 (s.2.2.2 + 1)) from fun z => c2 z.1.1)]
      exact st
end RLM
