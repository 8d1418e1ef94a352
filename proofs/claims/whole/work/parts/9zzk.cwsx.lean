/-! ===== the class's plain code: exchanges, whole ===== -/
section CWSX
variable {σ τ ρ υ ω : MS} {w w2 X Y v : B64} {m n f i j s t N K P Q d e x x' o b r : Nat} {a y p q : Int} {g : Nat → B64} {c c' c1 : TC WR} {φ ψ : Nat → Nat} {st k : Nat → Int} {L : List Q4} {u : SV} {fl : Bool} {l : List B64}
/-- the old value goes back to a register -/
theorem mid_b (M : mid σ τ P x) (C : cdC σ s K N) (K3 : 153 ≤ K) (h17 : ¬ gI σ 17 s = 0) (h9 : gI σ 71 9 = 0) (hx : P + x < N) (A : opC σ K (P + x) 1 a 11 0) (ha : 0 ≤ a ∧ a < 10) (rel : RelC τ φ c) (h11 : gL τ 76 11 = Y) : ∃ ρ, trs 1 τ ρ ∧ mid σ ρ P (x + 1) ∧ RelC ρ φ (wrR c a.toNat (0, Y)) := by
  have hq : ropQ (1, a, 11, 0) := rop_1 (Or.inl rfl) ⟨ha.1, by omega⟩ (by decide)
  obtain ⟨ρ, t, M', g1, g2, g3⟩ := mid_r (q := (1, a, 11, 0)) M C K3 h17 h9 hx A hq
  have r2 : RelC (sL τ 76 a.toNat Y) φ (wrR c a.toNat (0, Y)) := wr_C (v := (0, Y)) rel (by omega) enG_0.symm okSV_0 lv_0
  refine ⟨ρ, t, M', RelC_e r2 (fun k z y => by rw [gI_sL]; exact g3 k z y) (fun r _ => ?_) (fun k z y => by rw [gL_sL, if_neg (fun e => y e.1)]; exact g2 k z y)⟩
  rw [g1, gL_sL, st_mov]
  show (if r = a.toNat then gL τ 76 11 else gL τ 76 r) = _
  rw [h11]
  by_cases e : r = a.toNat
  · rw [if_pos e, if_pos ⟨rfl, e⟩]
  · rw [if_neg e, if_neg (fun z => e z.2)]
theorem w1_X (h : RelC σ φ (bm st c)) (hI : invW (cW c)) (W : wdC σ s K N st P (stoQ w P)) (hw : okMem w) (h3 : fL w = 3) (m192 : fM w = 192) (nx : st (cP c + 1).toNat = ((P + (stoQ w P).length : Nat) : Int)) (e : swT RB (cP c, cN c, cR c, cS c, cB c, RT (cW c)) w = some c') : ∃ k τ, (1 ≤ k ∧ k ≤ 6) ∧ trs k σ τ ∧ stq1 st σ τ φ (cP c, cN c, cR c, cS c, cB c, RT (cW c)) 0 (goT c' (cP c + 1)) := by
  have hw' := hw
  unfold okMem at hw'
  rw [if_neg (by omega), if_neg (by omega), if_neg (by omega)] at hw'
  obtain ⟨⟨oo, hd⟩, hi⟩ := hw'
  have hs : fS w ≤ 10 := by omega
  have fr := fld_rng w
  have D : 0 ≤ fD w ∧ fD w < 16 := fr.2.1
  have S : 0 ≤ fS w ∧ fS w < 16 := fr.2.2.1
  have d10 : dR w ≤ 10 := by show (fD w).toNat ≤ 10; omega
  have s10 : sRr w ≤ 10 := by show (fS w).toNat ≤ 10; omega
  have b8 := byt_1 w
  have b16 : bytN w < 16 := by omega
  have b48 : bytN w = 4 ∨ bytN w = 8 := by
    have q : fB w = 0 ∨ fB w = 3 := by
      have : fB w = fOp w / 8 % 4 := rfl
      omega
    unfold bytN
    rcases q with q | q <;> rw [q]
    · left; rfl
    · right; rfl
  have m96 : ¬ fM w = 96 := by omega
  obtain ⟨⟨C, s8, K3⟩, h17, h9, h8, hN, A⟩ := W
  have I2 : invW (RT (cW c)) := inv_ch hI
  obtain ⟨cb, hcb⟩ : ∃ cb : TC WR, cb = (cP (bm st c), cN c, cR c, cS c, cB (bm st c), RT (cW c)) := ⟨_, rfl⟩
  have r1 : RelC (advC σ P true) φ cb := by
    rw [hcb]
    exact ct_C h
  have hIb : invW (cW cb) := by
    rw [hcb]
    exact I2
  have e1 : swT RB cb w = some (chg (cP (bm st c)) (cB (bm st c)) c') := by
    have := swT_m (p := cP (bm st c)) (k := cB (bm st c)) (c := (cP c, cN c, cR c, cS c, cB c, RT (cW c))) (w := w)
    rw [e] at this
    rw [hcb]
    exact this
  have eq0 : c' = chg (cP c) (cB c) c' := by
    have := swT_m (p := cP c) (k := cB c) (c := (cP c, cN c, cR c, cS c, cB c, RT (cW c))) (w := w)
    have hc : chg (cP c) (cB c) (cP c, cN c, cR c, cS c, cB c, RT (cW c)) = (cP c, cN c, cR c, cS c, cB c, RT (cW c)) := rfl
    rw [hc, e] at this
    exact Option.some.inj this
  have q2 : cB c' = cB c := by rw [eq0]; rfl
  have fin : ∀ {τ : MS}, RelC τ φ (chg (cP (bm st c)) (cB (bm st c)) c') → RelC τ φ (bm st c') := fun {τ} r => by
    have eB : (fun f => st (cB c' f).toNat) = cB (bm st c) := funext fun f => by
      rw [q2]
      rfl
    refine bm_R (p := cP (bm st c)) ?_
    rw [eB]
    exact r
  -- the load
  have eS : ∀ r, gL (advC σ P true) 76 r = gL σ 76 r := fun r => adv_L (fun z => absurd z.1 (by decide))
  unfold swT at e1
  by_cases n0 : ¬ (rdR cb (sRr w)).1 = 0
  · rw [if_pos n0] at e1
    cases e1
  · rw [if_neg n0] at e1
    have z0 : (rdR cb (sRr w)).1 = 0 := Decidable.byContradiction n0
    obtain ⟨sa, _⟩ := rd_C r1 s10 (by omega)
    have sa : gL σ 76 (sRr w) = (rdR cb (sRr w)).2 := (eS _).symm.trans (sa.trans (enG_z z0))
    cases el : rdL RB cb (rdR cb (dR w)).1 (offN (rdR cb (dR w)).2 (fO w)).toNat (bytN w) with
    | none =>
      rw [el] at e1
      cases e1
    | some l =>
      rw [el] at e1
      dsimp only at e1
      obtain ⟨ob, pb, hl⟩ := rdL_C r1 _ _ _ el
      have o0 := ob 0 (by omega)
      have pb := pb b8.1
      have ea := ea_C (y := fO w) r1 d10 (by omega) (by omega) (by omega)
      obtain ⟨Q, hQ⟩ : ∃ Q, Q = plC φ (rdR cb (dR w)).1 + (offN (rdR cb (dR w)).2 (fO w)).toNat := ⟨_, rfl⟩
      rw [← hQ] at ea pb hl
      rw [eS] at ea
      have t8 := T188 (σ := advC σ P true) pb
      rw [← hl] at t8
      have A0 : opC σ K P (18 + 256 * ((bytN w : Nat) : Int) + (if true = true then 65536 else 0)) 11 (fD w) (fO w) := by
        have ef : finQ st (memQ 18 w 11 (fD w)) = memQ 18 w 11 (fD w) := if_neg (by show ¬ 131072 ≤ 18 + 256 * ((bytN w : Nat) : Int); omega)
        unfold stoQ at A
        rw [if_neg m96, List.map_cons, ef] at A
        exact A.1
      have hx : P < N := by
        have : 1 ≤ (stoQ w P).length := by
          unfold stoQ
          rw [if_neg m96, List.length_cons]
          omega
        omega
      have t1 := T128l (τ := advC σ P true) C h8 hx b16 A0 (by decide) D (by
        show MM 188 [mR (some 71), mL (gL σ 76 (dR w) + iL (fO w)), mI ((bytN w : Nat) : Int)] (advC σ P true) = _
        rw [ea]
        exact t8)
      have t11 : (11 : Int).toNat = 11 := rfl
      rw [t11] at t1
      obtain ⟨τ1, hτ1⟩ : ∃ τ1, τ1 = sL (advC σ P true) 76 11 (leN l) := ⟨_, rfl⟩
      rw [← hτ1] at t1
      have u1 := trs_1 C h17 h9 t1
      have M1 : mid σ τ1 P 1 := by
        rw [hτ1]
        refine ⟨mvC_t adv_mv mvC_L, fun k z y1 _ => ?_, ?_⟩
        · rw [gI_sL]
          exact adv_I y1
        · rw [gI_sL]
          exact adv_8
      have g1 : ∀ r, gL τ1 76 r = if r = 11 then leN l else gL σ 76 r := fun r => by
        rw [hτ1, gL_sL]
        by_cases z : r = 11
        · rw [if_pos ⟨rfl, z⟩, if_pos z]
        · rw [if_neg (fun y => z y.2), if_neg z, eS]
      have rel1 : RelC τ1 φ cb := RelC_e r1 (fun k z y => by rw [hτ1, gI_sL]) (fun r hr => by rw [g1, if_neg (by omega), eS]) (fun k z y => by rw [hτ1, gL_sL, if_neg (fun e => y e.1)])
      have ea1 : ∀ ρ : MS, (∀ r, r ≤ 10 → gL ρ 76 r = gL σ 76 r) → gL ρ 76 (dR w) + iL (fO w) = iL (1048576 + (Q : Int)) := fun ρ z => by
        rw [z _ d10]
        exact ea
      have fm : ∀ a b : Int, finQ st (memQ 19 w a b) = memQ 19 w a b := fun a b => if_neg (by show ¬ 131072 ≤ 19 + 256 * ((bytN w : Nat) : Int); omega)
      have zf : ∀ {x : Nat} {y p q r : Int}, opC σ K x (y + (if false = true then 65536 else 0)) p q r → opC σ K x y p q r := fun h => by
        rw [if_neg (by decide), Int.add_zero] at h
        exact h
      have fin2 : ∀ {τ : MS} {x : Nat}, mid σ τ P x → x = (stoQ w P).length → RelC τ φ (chg (cP (bm st c)) (cB (bm st c)) c') → stq1 st σ τ φ (cP c, cN c, cR c, cS c, cB c, RT (cW c)) 0 (goT c' (cP c + 1)) := fun {τ x} M ex r =>
        w1_q (L := stoQ w P) M.1 (fin r) (by rw [← ex]; exact M.2.2) ((M.2.1 _ _ (by omega) (by decide)).trans h9) nx
      by_cases c241 : fI w = 241
      · rw [if_pos c241] at e1
        have eL : stoQ w P = [memQ 18 w 11 (fD w), (if bytN w = 4 then 15 else 1, 12, 0, 0), (21, (P : Int) + 4, 11, 12), memQ 19 w (fD w) (fS w), (1, 0, 11, 0)] := by
          unfold stoQ
          rw [if_neg m96, if_pos c241]
        have n5 : (stoQ w P).length = 5 := by rw [eL]; rfl
        rw [eL] at A
        have f1 : finQ st ((if bytN w = 4 then 15 else 1 : Int), 12, 0, 0) = (if bytN w = 4 then 15 else 1, 12, 0, 0) := if_neg (by
          show ¬ 131072 ≤ (if bytN w = 4 then 15 else 1 : Int)
          split <;> decide)
        have f2 : finQ st ((21 : Int), (P : Int) + 4, 11, 12) = (21, (P : Int) + 4, 11, 12) := rfl
        have f3 : finQ st ((1 : Int), 0, 11, 0) = (1, 0, 11, 0) := rfl
        rw [List.map_cons, List.map_cons, List.map_cons, List.map_cons, List.map_cons, f1, f2, fm, f3] at A
        obtain ⟨_, A1, A2, A3, A4, _⟩ := A
        by_cases q : ¬ (rdR cb 0).1 = 0
        · rw [if_pos q] at e1
          cases e1
        · rw [if_neg q] at e1
          have q0 : (rdR cb 0).1 = 0 := Decidable.byContradiction q
          obtain ⟨za, _⟩ := rd_C r1 (r := 0) (by decide) (by omega)
          have za : gL σ 76 0 = (rdR cb 0).2 := (eS _).symm.trans (za.trans (enG_z q0))
          have rq1 : ropQ ((if bytN w = 4 then 15 else 1 : Int), 12, 0, 0) := by
            by_cases z : bytN w = 4
            · rw [if_pos z]
              exact rop_1 (Or.inr rfl) (by decide) (by decide)
            · rw [if_neg z]
              exact rop_1 (Or.inl rfl) (by decide) (by decide)
          obtain ⟨τ2, u2, M2, g2, l2, i2⟩ := mid_r (q := ((if bytN w = 4 then 15 else 1 : Int), 12, 0, 0)) M1 C K3 h17 h9 (by omega) (zf A1) rq1
          have v2 : ∀ r, gL τ2 76 r = if r = 12 then lowB (8 * bytN w) (rdR cb 0).2 else gL τ1 76 r := fun r => by
            rw [g2]
            have z10 : gL τ1 76 0 = (rdR cb 0).2 := by rw [g1, if_neg (by decide), za]
            rcases b48 with b4 | b4
            · rw [if_pos b4, st_cut, b4]
              show (if r = 12 then gL τ1 76 0 &&& cF else gL τ1 76 r) = _
              rw [z10]
              rfl
            · rw [if_neg (by omega), st_mov, b4]
              show (if r = 12 then gL τ1 76 0 else gL τ1 76 r) = _
              rw [z10]
              rfl
          have rel2 : RelC τ2 φ cb := RelC_e rel1 i2 (fun r hr => by rw [v2, if_neg (by omega)]) l2
          obtain ⟨C2, h17', h9', gK⟩ := mid_C M2 C K3 h17 h9
          have A2' : opC τ2 K (P + (1 + 1)) (21 + (if false = true then 65536 else 0)) ((P : Int) + 4) 11 12 := opC_g gK A2
          have t3 := T128c (fl := false) C2 M2.2.2 (by omega) A2' (by decide) (by decide) (by decide)
          have so : soV 21 (gL τ2 76 (11 : Int).toNat) (gL τ2 76 (12 : Int).toNat) = decide (¬ leN l = lowB (8 * bytN w) (rdR cb 0).2) := by
            have y1 : gL τ2 76 (11 : Int).toNat = leN l := by
              show gL τ2 76 11 = _
              rw [v2, if_neg (by decide), g1, if_pos rfl]
            have y2 : gL τ2 76 (12 : Int).toNat = lowB (8 * bytN w) (rdR cb 0).2 := by
              show gL τ2 76 12 = _
              rw [v2, if_pos rfl]
            rw [y1, y2]
            rfl
          rw [so] at t3
          have u3 := trs_1 C2 h17' h9' t3
          have lv : ∀ k z, gL (advC τ2 (P + (1 + 1)) false) k z = gL τ2 k z := fun k z => by
            by_cases e : k = 71 ∧ z = 16
            · rw [e.1, e.2, adv_16, if_neg (by decide), BitVec.add_zero]
            · exact adv_L e
          have rel3 : RelC (advC τ2 (P + (1 + 1)) false) φ cb := RelC_e rel2 (fun k z y => adv_I y) (fun r _ => lv _ _) (fun k z _ => lv _ _)
          by_cases eq : leN l = lowB (8 * bytN w) (rdR cb 0).2
          · rw [if_pos eq] at e1
            rw [if_neg (by rw [decide_eq_false (not_not_intro eq)]; decide)] at u3
            have M3 : mid σ (advC τ2 (P + (1 + 1)) false) P 3 := ⟨mvC_t M2.1 adv_mv, fun k z y1 y2 => (adv_I y1).trans (M2.2.1 k z y1 y2), adv_8⟩
            have g3 : ∀ r, r ≤ 10 → gL (advC τ2 (P + (1 + 1)) false) 76 r = gL σ 76 r := fun r hr => by rw [lv, v2, if_neg (by omega), g1, if_neg (by omega)]
            cases ew : wrL RB cb (rdR cb (dR w)).1 (offN (rdR cb (dR w)).2 (fO w)).toNat (bysN (rdR cb (sRr w)).2 (bytN w)) with
            | none =>
              rw [ew] at e1
              cases e1
            | some c1 =>
              rw [ew] at e1
              have e1 := Option.some.inj e1
              rw [← sa, ← g3 _ s10] at ew
              obtain ⟨τ4, u4, M4, rel4, l4⟩ := mid_s M3 C K3 h17 h9 (by omega) (zf A3) S hIb rel3 (ea1 _ g3) hQ pb ew
              have h11 : gL τ4 76 11 = leN l := by rw [l4, lv, v2, if_neg (by decide), g1, if_pos rfl]
              obtain ⟨τ5, u5, M5, rel5⟩ := mid_b M4 C K3 h17 h9 (by omega) (zf A4) (by decide) rel4 h11
              refine ⟨5, τ5, by decide, trs_t 1 u1 (trs_t 1 u2 (trs_t 1 u3 (trs_t 1 u4 u5))), fin2 M5 n5.symm ?_⟩
              rw [← e1]
              exact rel5
          · rw [if_neg eq] at e1
            have e1 := Option.some.inj e1
            rw [if_pos (decide_eq_true eq)] at u3
            obtain ⟨τ3, hτ3⟩ : ∃ τ3, τ3 = sI (advC τ2 (P + (1 + 1)) false) 71 8 ((P : Int) + 4) := ⟨_, rfl⟩
            rw [← hτ3] at u3
            have M3 : mid σ τ3 P 4 := by
              rw [hτ3]
              refine ⟨mvC_t M2.1 (mvC_t adv_mv (mvC_I (by omega))), fun k z y1 y2 => ?_, ?_⟩
              · rw [gI_sI, if_neg y1]
                exact (adv_I y1).trans (M2.2.1 k z y1 y2)
              · rw [gI_sI, if_pos ⟨rfl, rfl⟩]
                omega
            have rel4 : RelC τ3 φ cb := by
              rw [hτ3]
              exact RelC_i rel3
            have h11 : gL τ3 76 11 = leN l := by
              rw [hτ3, gL_sI, lv, v2, if_neg (by decide), g1, if_pos rfl]
            obtain ⟨τ5, u5, M5, rel5⟩ := mid_b M3 C K3 h17 h9 (by omega) (zf A4) (by decide) rel4 h11
            refine ⟨4, τ5, by decide, trs_t 1 u1 (trs_t 1 u2 (trs_t 1 u3 u5)), fin2 M5 n5.symm ?_⟩
            rw [← e1]
            exact rel5
      · rw [if_neg c241] at e1
        cases ew : wrL RB cb (rdR cb (dR w)).1 (offN (rdR cb (dR w)).2 (fO w)).toNat (bysN (swpX (fI w) (leN l) (rdR cb (sRr w)).2) (bytN w)) with
        | none =>
          rw [ew] at e1
          cases e1
        | some c1 =>
          rw [ew] at e1
          have e1 := Option.some.inj e1
          -- what is put lies in a register
          obtain ⟨bk, hbk⟩ : ∃ bk : List Q4, bk = (if fI w % 2 = 1 then [((1 : Int), fS w, 11, 0)] else []) := ⟨_, rfl⟩
          have fb : bk.map (finQ st) = bk := by
            rw [hbk]
            split <;> rfl
          -- the end
          have done : ∀ (x : Nat) (τ : MS), (1 ≤ x ∧ x ≤ 3) → x + bk.length = (stoQ w P).length → atC σ K (P + x) false bk → mid σ τ P x → trs x σ τ → RelC τ φ c1 → gL τ 76 11 = leN l → ∃ k τ, (1 ≤ k ∧ k ≤ 6) ∧ trs k σ τ ∧ stq1 st σ τ φ (cP c, cN c, cR c, cS c, cB c, RT (cW c)) 0 (goT c' (cP c + 1)) := fun x τ hx' ex Ab M u rel h11 => by
            by_cases od : fI w % 2 = 1
            · rw [if_pos od] at e1 hbk
              rw [hbk] at Ab ex
              have s9 : 0 ≤ fS w ∧ fS w < 10 := by omega
              obtain ⟨τ', u', M', rel'⟩ := mid_b M C K3 h17 h9 (by have ex : x + 1 = (stoQ w P).length := ex; omega) (zf Ab.1) s9 rel h11
              refine ⟨x + 1, τ', by omega, trs_t x u u', fin2 M' ex ?_⟩
              rw [← e1]
              exact rel'
            · rw [if_neg od] at e1 hbk
              rw [hbk] at ex
              refine ⟨x, τ, by omega, u, fin2 M ex ?_⟩
              rw [← e1]
              exact rel
          by_cases c225 : fI w = 225
          · have eL : stoQ w P = memQ 18 w 11 (fD w) :: memQ 19 w (fD w) (fS w) :: bk := by
              unfold stoQ
              rw [if_neg m96, if_neg c241, if_pos c225, hbk]
              rfl
            rw [eL, List.map_cons, List.map_cons, fm, fb] at A
            have sx : swpX (fI w) (leN l) (rdR cb (sRr w)).2 = (rdR cb (sRr w)).2 := by rw [c225]; rfl
            have g3 : ∀ r, r ≤ 10 → gL τ1 76 r = gL σ 76 r := fun r hr => by rw [g1, if_neg (by omega)]
            rw [sx, ← sa, ← g3 _ s10] at ew
            have nl : (stoQ w P).length = 2 + bk.length := by rw [eL, List.length_cons, List.length_cons]; omega
            obtain ⟨τ4, u4, M4, rel4, l4⟩ := mid_s M1 C K3 h17 h9 (by omega) (zf A.2.1) S hIb rel1 (ea1 _ g3) hQ pb ew
            exact done 2 τ4 (by decide) nl.symm A.2.2 M4 (trs_t 1 u1 u4) rel4 (by rw [l4, g1, if_pos rfl])
          · have eL : stoQ w P = memQ 18 w 11 (fD w) :: (opQ (fI w / 16 * 16) 0, 12, 11, fS w) :: memQ 19 w (fD w) 12 :: bk := by
              unfold stoQ
              rw [if_neg m96, if_neg c241, if_neg c225, hbk]
              rfl
            have ob := opQ_b (c := fI w / 16 * 16) (o := 0)
            have fo : finQ st (opQ (fI w / 16 * 16) 0, 12, 11, fS w) = (opQ (fI w / 16 * 16) 0, 12, 11, fS w) := if_neg (by show ¬ 131072 ≤ opQ (fI w / 16 * 16) 0; omega)
            rw [eL, List.map_cons, List.map_cons, List.map_cons, fm, fb, fo] at A
            have kk : fI w / 16 * 16 = 0 ∨ fI w / 16 * 16 = 64 ∨ fI w / 16 * 16 = 80 ∨ fI w / 16 * 16 = 160 := by omega
            have sx : swpX (fI w) (leN l) (rdR cb (sRr w)).2 = opsV (opQ (fI w / 16 * 16) 0) (leN l) (rdR cb (sRr w)).2 := by
              unfold swpX
              rcases kk with q | q | q | q <;> rw [q] <;> rfl
            have nl : (stoQ w P).length = 3 + bk.length := by rw [eL, List.length_cons, List.length_cons, List.length_cons]; omega
            obtain ⟨τ2, u2, M2, g2, l2, i2⟩ := mid_r (q := (opQ (fI w / 16 * 16) 0, 12, 11, fS w)) M1 C K3 h17 h9 (by omega) (zf A.2.1) (rop_ops ob.1 ob.2 (by decide) (by decide) S)
            have v2 : ∀ r, gL τ2 76 r = if r = 12 then swpX (fI w) (leN l) (rdR cb (sRr w)).2 else gL τ1 76 r := fun r => by
              rw [g2, st_ops ob.1 ob.2, sx]
              show (if r = 12 then opsV _ (gL τ1 76 11) (gL τ1 76 (sRr w)) else gL τ1 76 r) = _
              rw [g1 11, if_pos rfl, g1 (sRr w), if_neg (show ¬ sRr w = 11 by omega), sa]
            have rel2 : RelC τ2 φ cb := RelC_e rel1 i2 (fun r hr => by rw [v2, if_neg (by omega)]) l2
            have g3 : ∀ r, r ≤ 10 → gL τ2 76 r = gL σ 76 r := fun r hr => by rw [v2, if_neg (by omega), g1, if_neg (by omega)]
            have w12 : gL τ2 76 (12 : Int).toNat = swpX (fI w) (leN l) (rdR cb (sRr w)).2 := (v2 12).trans (if_pos rfl)
            rw [← w12] at ew
            obtain ⟨τ4, u4, M4, rel4, l4⟩ := mid_s (r := 12) M2 C K3 h17 h9 (by omega) (zf A.2.2.1) (by decide) hIb rel2 (ea1 _ g3) hQ pb ew
            exact done 3 τ4 (by decide) nl.symm A.2.2.2 M4 (trs_t 1 u1 (trs_t 1 u2 u4)) rel4 (by rw [l4, v2, if_neg (by decide), g1, if_pos rfl])
end CWSX
