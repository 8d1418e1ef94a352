/-! ===== the class's plain code: pairs, loads, stores ===== -/
section CWMM
variable {σ τ ρ υ ω : MS} {w w2 X Y v : B64} {m n f i j s t N K P Q d e x' o' : Nat} {a b o x y : Int} {g : Nat → B64} {c c' : TC WR} {φ ψ : Nat → Nat} {st : Nat → Int} {L : List Q4} {u : SV} {fl : Bool}
theorem sh_hi (h : w2 &&& cF = 0#64) : lShl (iL (fI w2)) 32 = w2 &&& ~~~cF := by
  rw [lo_w h]
  apply BitVec.eq_of_toNat_eq
  have e : lShl (iL (fI w2)) 32 = iL (fI w2) <<< 32 := lShl_k _ (n := 32) (by decide)
  have l := nat_cF w2
  rw [h] at l
  have l : 0 = w2.toNat % 4294967296 := l
  have t := toInt_c w2
  have hw := w2.isLt
  have f : fI w2 = w2.toInt / 4294967296 := rfl
  have et : (iL (fI w2)).toNat = (fI w2 % 18446744073709551616).toNat := by
    unfold iL
    rw [BitVec.toNat_ofInt]
    rfl
  rw [e, BitVec.toNat_shiftLeft, Nat.shiftLeft_eq, et, f]
  show (w2.toInt / 4294967296 % 18446744073709551616).toNat * 4294967296 % 18446744073709551616 = w2.toNat
  split at t <;> omega
theorem rop_0 (ha : 0 ≤ a ∧ a < 16) : ropQ (0, a, b, o) := by
  unfold ropQ
  show rqok 0 a b o
  unfold rqok
  exact ⟨⟨by omega, by omega⟩, ha, fun z => absurd rfl z, fun z _ => absurd z (by decide), fun z => absurd z (by decide), fun z => absurd z (by decide)⟩
theorem rdL_m {p p' : Int} {M : Nat} {R : Nat → Nat → SV} {T : Nat → Nat → MB} {k k' : Nat → Int} {V : WR} : ∀ (n b : Nat), rdL RB (p, M, R, T, k, V) o' b n = rdL RB (p', M, R, T, k', V) o' b n := by
  intro n
  induction n with
  | zero => intro b; rfl
  | succ n ih =>
    intro b
    unfold rdL
    rw [ih]
    rfl
theorem ldT_m {p p' : Int} {M : Nat} {R : Nat → Nat → SV} {T : Nat → Nat → MB} {k k' : Nat → Int} {V : WR} : ldT RB RH (p, M, R, T, k, V) w = ldT RB RH (p', M, R, T, k', V) w := by
  unfold ldT
  rw [rdL_m (p' := p') (k' := k')]
  rfl
theorem w1_P (h : RelC σ φ (bm st c)) (W : wdC σ s K N st P (parQ w w2)) (okr : okPr w w2) (nx : st (cP c + 2).toNat = ((P + (parQ w w2).length : Nat) : Int)) : ∃ τ, trs (parQ w w2).length σ τ ∧ stq1 st σ τ φ (cP c, cN c, cR c, cS c, cB c, RT (cW c)) 0 (goT (wrR (cP c, cN c, cR c, cS c, cB c, RT (cW c)) (dR w) (if fS w = 0 then (0, (BitVec.ofInt 64 (fI w) &&& cF) ||| (w2 &&& ~~~ cF)) else (8 + (fI w).toNat, 0#64))) (cP c + 2)) := by
  obtain ⟨⟨o24, d9, _, lo⟩, o2⟩ := okr
  have fr := fld_rng w
  have D : 0 ≤ fD w ∧ fD w < 16 := fr.2.1
  have d10 := dR_9 d9
  by_cases s0 : fS w = 0
  · rw [if_pos s0]
    have eL : parQ w w2 = [(0, fD w, fI w, fI w2)] := if_neg (by omega)
    rw [eL] at W nx ⊢
    have R : resQ [(0, fD w, fI w, fI w2)] (fun r => gL σ 76 r) (dR w) ((BitVec.ofInt 64 (fI w) &&& cF) ||| (w2 &&& ~~~ cF)) := by
      refine ⟨rq_c (rop_0 D) rq_n, ?_, fun r hr hn => ?_⟩
      · show (if dR w = (fD w).toNat then (lShl (iL (fI w2)) 32) ||| (iL (fI w) &&& cF) else _) = _
        rw [if_pos rfl, sh_hi lo, BitVec.or_comm]
        rfl
      · show (if r = (fD w).toNat then _ else gL σ 76 r) = _
        exact if_neg hn
    obtain ⟨τ, t, m, r, g8, g9⟩ := w1_r h W (by simp) R d10 (u := (0, (BitVec.ofInt 64 (fI w) &&& cF) ||| (w2 &&& ~~~ cF))) enG_0.symm okSV_0 lv_0
    exact ⟨τ, t, w1_q m r g8 g9 nx⟩
  · rw [if_neg s0]
    obtain ⟨s1, i0, i7, _⟩ := o2.resolve_left s0
    have eL : parQ w w2 = [setQ (fD w) (fI w + 1)] := if_pos s1
    rw [eL] at W nx ⊢
    have ea : iL (fI w + 1) = enK φ (8 + (fI w).toNat, 0#64) := by
      show _ = enG (adC φ) (8 + (fI w).toNat, 0#64)
      rw [enG_n (show ¬ 8 + (fI w).toNat = 0 by omega), BitVec.add_zero]
      unfold adC
      rw [if_pos (by omega)]
      exact congrArg iL (by omega)
    have kv : okSV (8 + (fI w).toNat, 0#64) := ⟨fun _ => rfl, fun _ _ => rfl, by show 8 + (fI w).toNat < 400; omega⟩
    have R : resQ [setQ (fD w) (fI w + 1)] (fun r => gL σ 76 r) (dR w) (iL (fI w + 1)) := by
      have e : runG [setQ (fD w) (fI w + 1)] (fun r => gL σ 76 r) = updG (fun r => gL σ 76 r) (dR w) (iL (fI w + 1)) := st_set (by omega) (by omega)
      refine ⟨rq_c (rop_set D) rq_n, ?_, fun r hr hn => ?_⟩
      · rw [e, ug_s]
      · rw [e, ug_n hn]
    obtain ⟨τ, t, m, r, g8, g9⟩ := w1_r h W (by simp) R d10 ea kv (fun z => by have z : 300 ≤ 8 + (fI w).toNat := z; omega)
    exact ⟨τ, t, w1_q m r g8 g9 nx⟩
theorem adv_mv : mvC σ (advC σ x' fl) := ⟨fun k z y => adv_I (fun e => y (by omega)), fun k z y1 y2 => adv_L (fun e => y2 ⟨e.1, Or.inr e.2⟩), adv_2⟩
theorem blk_mv (b : blkR σ τ x' fl L) : mvC σ τ := ⟨fun k z y => b.1 k z (fun e => y (by omega)), fun k z y1 y2 => b.2.2.2.1 k z (fun e => y1 (Or.inl e)) (fun e => y2 ⟨e.1, Or.inr e.2⟩), b.2.2.2.2.2⟩
/-- one turn -/
theorem trs_1 (C : cdC σ s K N) (h17 : ¬ gI σ 17 s = 0) (h9 : gI σ 71 9 = 0) (t : MM 128 [mR (some 72), mR (some 71)] σ = some (none, ρ)) : trs 1 σ ρ := by
  refine ⟨⟨h9, ?_, ?_, ?_⟩, ρ, t, rfl⟩
  · rw [C.1.1, Int.toNat_natCast]
    exact h17
  · rw [C.1.1]
    exact Int.natCast_nonneg s
  · rw [C.1.1]
    exact Int.ofNat_lt.mpr C.1.2
/-- the context of a place further on, in a store that differs where a run may write -/
theorem cdC_m (m : mvC σ τ) (g7 : gI τ 71 7 = gI σ 71 7) (h : cdC σ s K N) : cdC τ s K N := cdC_g g7 (fun z => m.1 74 z (by omega)) m.2.2 h
theorem w1_L (h : RelC σ φ (bm st c)) (hI : invW (cW c)) (W : wdC σ s K N st P (lodQ w)) (hw : okMem w) (h1 : fL w = 1) (nx : st (cP c + 1).toNat = ((P + (lodQ w).length : Nat) : Int)) (e : ldT RB RH (cP c, cN c, cR c, cS c, cB c, RT (cW c)) w = some u) : ∃ τ, trs (lodQ w).length σ τ ∧ stq1 st σ τ φ (cP c, cN c, cR c, cS c, cB c, RT (cW c)) 0 (goT (wrR (cP c, cN c, cR c, cS c, cB c, RT (cW c)) (dR w) u) (cP c + 1)) := by
  have hw' := hw
  unfold okMem at hw'
  rw [if_pos h1] at hw'
  obtain ⟨hm, hd, hs, hi⟩ := hw'
  have fr := fld_rng w
  have D : 0 ≤ fD w ∧ fD w < 16 := fr.2.1
  have S : 0 ≤ fS w ∧ fS w < 16 := fr.2.2.1
  have d10 := dR_9 hd
  have b8 := byt_r (w := w)
  have b16 : bytN w < 16 := by omega
  obtain ⟨⟨C, s8, K3⟩, h17, h9, h8, hN, A⟩ := W
  have r1 : RelC (advC σ P true) φ (cP (bm st c), cN c, cR c, cS c, cB (bm st c), RT (cW c)) := ct_C h
  have e1 : ldT RB RH (cP (bm st c), cN c, cR c, cS c, cB (bm st c), RT (cW c)) w = some u := ldT_m.trans e
  obtain ⟨z, tz, ez, kz, lz⟩ := ld_C r1 (inv_ch hI) hw h1 e1
  have eS : gL (advC σ P true) 76 (sRr w) = gL σ 76 (sRr w) := adv_L (fun z => absurd z.1 (by decide))
  rw [eS] at tz
  have n0 : (lodQ w).length = 1 + (if fM w = 128 then [((16 : Int), fD w, fD w, 8 * ((bytN w : Nat) : Int))] else []).length := by
    unfold lodQ
    rw [List.length_cons, Nat.add_comm]
  have hx : P < N := by omega
  have A0 : opC σ K P (18 + 256 * ((bytN w : Nat) : Int) + (if true = true then 65536 else 0)) (fD w) (fS w) (fO w) := by
    have ef : finQ st (memQ 18 w (fD w) (fS w)) = memQ 18 w (fD w) (fS w) := if_neg (by show ¬ 131072 ≤ 18 + 256 * ((bytN w : Nat) : Int); omega)
    unfold lodQ at A
    rw [List.map_cons, ef] at A
    exact A.1
  have t1 := T128l (τ := advC σ P true) C h8 hx b16 A0 D S tz
  obtain ⟨τ1, hτ1⟩ : ∃ τ1, τ1 = sL (advC σ P true) 76 (fD w).toNat z := ⟨_, rfl⟩
  rw [← hτ1] at t1
  have m1 : mvC σ τ1 := by
    rw [hτ1]
    exact mvC_t adv_mv mvC_L
  have g1 : ∀ k y, ¬ (k = 71 ∧ y = 8) → gI τ1 k y = gI σ k y := fun k y q => by
    rw [hτ1, gI_sL]
    exact adv_I q
  have g18 : gI τ1 71 8 = ((P + 1 : Nat) : Int) := by
    rw [hτ1, gI_sL]
    exact adv_8
  have u1 := trs_1 C h17 h9 t1
  by_cases m128 : fM w = 128
  · rw [if_pos m128] at ez n0
    have n2 : (lodQ w).length = 2 := n0
    have nb : ¬ fB w = 3 := by
      rcases hm with q | q
      · omega
      · exact q.2
    have b4 : 1 ≤ bytN w ∧ bytN w ≤ 4 := by
      have : 0 ≤ fB w ∧ fB w ≤ 3 := by
        unfold fB
        omega
      unfold bytN
      repeat' split
      all_goals omega
    have rq : ropQ (16, fD w, fD w, 8 * ((bytN w : Nat) : Int)) := rop_sxt D D ⟨by omega, by omega⟩
    have A1 : atC τ1 K (P + 1) false [(16, fD w, fD w, 8 * ((bytN w : Nat) : Int))] := by
      unfold lodQ at A
      rw [if_pos m128, List.map_cons, fin_r _ (rq_c rq rq_n)] at A
      exact atC_g (fun z => g1 K z (fun e => by omega)) _ _ _ A.2
    obtain ⟨τ, t, B⟩ := blk K3 s8 _ (P + 1) false τ1 (cdC_m m1 (g1 _ _ (by omega)) C) (by rw [g1 17 s (by omega)]; exact h17) ((g1 _ _ (by omega)).trans h9) g18 (by show P + 1 + 1 ≤ N; omega) A1 (rq_c rq rq_n)
    have r2 := wr_C r1 d10 ez kz lz
    refine ⟨τ, by rw [n2]; exact trs_t 1 u1 t, ?_⟩
    have mτ := mvC_t m1 (blk_mv B)
    obtain ⟨b1, b2, b3, b4', b5, b6⟩ := B
    have r3 : RelC τ φ (wrR (cP (bm st c), cN c, cR c, cS c, cB (bm st c), RT (cW c)) (dR w) u) := RelC_e r2 (fun k z y => by
      rw [gI_sL, adv_I y, b1 k z y]
      exact g1 k z y) (fun r hr => by
      rw [b3 r, gL_sL]
      show (if r = (fD w).toNat then sxt (8 * ((bytN w : Nat) : Int)).toNat (gL τ1 76 (fD w).toNat) else gL τ1 76 r) = _
      by_cases q : r = dR w
      · rw [if_pos q, if_pos ⟨rfl, q⟩, hτ1, gL_sL, if_pos ⟨rfl, rfl⟩, show (8 * ((bytN w : Nat) : Int)).toNat = 8 * bytN w by omega]
      · rw [if_neg q, if_neg (fun z => q z.2), hτ1, gL_sL, if_neg (fun z => q z.2)]) (fun k z y => by
      rw [gL_sL, if_neg (fun e => y e.1)]
      by_cases q : k = 71 ∧ z = 16
      · rw [q.1, q.2, b5, hτ1, gL_sL, if_neg (fun e => absurd e.1 (by decide))]
        exact BitVec.add_zero _
      · rw [b4' k z y q, hτ1, gL_sL, if_neg (fun e => y e.1)])
    exact w1_q (L := lodQ w) mτ r3 (b2.trans (by rw [n2]; rfl)) ((b1 _ _ (by omega)).trans ((g1 _ _ (by omega)).trans h9)) nx
  · rw [if_neg m128] at ez n0
    have n1 : (lodQ w).length = 1 := n0
    have r2 := wr_C r1 d10 ez kz lz
    have r3 : RelC τ1 φ (wrR (cP (bm st c), cN c, cR c, cS c, cB (bm st c), RT (cW c)) (dR w) u) := by
      rw [hτ1]
      exact r2
    refine ⟨τ1, by rw [n1]; exact u1, w1_q (L := lodQ w) m1 r3 (by rw [n1]; exact g18) ((g1 _ _ (by omega)).trans h9) nx⟩
end CWMM
