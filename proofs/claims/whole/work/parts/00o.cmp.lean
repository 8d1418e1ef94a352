section CM
variable {W : Type} {B : WB W} {E : EV} {th : Int → Nat} {tp : Int → B64} {S : ST} {c : TC W} {t : Int}
theorem pt_pos {v : VL} {s : SV} {g : Nat} (hg : g < 4) (gv : gV E (B.1 (cW c)) (B.2.2.2.2 (cW c)) (sH S) th tp v s) (ov : okV E g t v) (k : vk v = 2 ∨ vk v = 3 ∨ vk v = 4 ∨ vk v = 5 ∨ vk v = 7 ∨ vk v = 8 ∨ vk v = 9) : 1 ≤ s.1 := by
  rcases k with k | k | k | k | k | k | k
  · rw [gV_2 gv k]; exact Nat.le_refl 1
  · have q := mvs_pt hg (Or.inl k) gv ov; unfold isPt at q; omega
  · rw [gV_4 gv k]; show 1 ≤ 8 + (vw v).toNat; omega
  · have q := mvs_pt hg (Or.inr (Or.inl k)) gv ov; unfold isPt at q; omega
  · have q := mvs_pt hg (Or.inr (Or.inr (Or.inl k))) gv ov; unfold isPt at q; omega
  · rw [gV_8 gv k]; show 1 ≤ 280; omega
  · have q := mvs_pt hg (Or.inr (Or.inr (Or.inr k))) gv ov; unfold isPt at q; omega
theorem rch_j (h : gS B E th tp S c) (ho : okS E t S) {p : VL} {g n : Int} {cc : Int} {P : Int} {gg : Nat} (op : okV E gg t p) (k7 : vk p = 7) (hP : P = vo p + (tp (vt p)).toNat) (hc : isOrd cc) :
    (wayG B E (rchJ S p cc g n t).2.1 (goT c (if (if cc = 32 then decide ((B.1 (cW c) : Int) < P) else if cc = 48 then decide (¬ P < (B.1 (cW c) : Int)) else if cc = 160 then decide (P < (B.1 (cW c) : Int)) else decide (¬ (B.1 (cW c) : Int) < P)) = true then g else n)) ∨ wayG B E (rchJ S p cc g n t).2.2.1 (goT c (if (if cc = 32 then decide ((B.1 (cW c) : Int) < P) else if cc = 48 then decide (¬ P < (B.1 (cW c) : Int)) else if cc = 160 then decide (P < (B.1 (cW c) : Int)) else decide (¬ (B.1 (cW c) : Int) < P)) = true then g else n))) ∧ resO E t (rchJ S p cc g n t) := by
  have off := op.2.1 (Or.inr (Or.inr (Or.inl k7)))
  have o0 : okS E t (allV S (rchV (vt p) (vo p))) := rch_ok ho (by omega)
  have o1 : okS E t (allV S (rchV (vt p) (vo p + 1))) := rch_ok ho (by omega)
  have g0 : P ≤ (B.1 (cW c) : Int) → gS B E th tp (allV S (rchV (vt p) (vo p))) c := fun q => rch_g h (by omega)
  have g1 : P < (B.1 (cW c) : Int) → gS B E th tp (allV S (rchV (vt p) (vo p + 1))) c := fun q => rch_g h (by omega)
  unfold rchJ
  rcases hc with rfl | rfl | rfl | rfl
  · simp only [if_true, if_neg (show ¬ (32 : Int) = 48 by decide), if_neg (show ¬ (32 : Int) = 160 by decide), if_neg (show ¬ (32 : Int) = 176 by decide)]
    refine ⟨?_, Int.le_refl _, wayO_1 o0, wayO_1 ho⟩
    by_cases q : (B.1 (cW c) : Int) < P
    · rw [if_pos (decide_eq_true q)]
      exact Or.inr (wayG_1 rfl (goT_g h _))
    · rw [if_neg (by simpa using q)]
      exact Or.inl (wayG_1 rfl (goT_g (g0 (by omega)) _))
  · simp only [if_true, if_neg (show ¬ (48 : Int) = 32 by decide), if_neg (show ¬ (48 : Int) = 160 by decide), if_neg (show ¬ (48 : Int) = 176 by decide)]
    refine ⟨?_, Int.le_refl _, wayO_1 o1, wayO_1 ho⟩
    by_cases q : P < (B.1 (cW c) : Int)
    · rw [if_neg (by simpa using q)]
      exact Or.inl (wayG_1 rfl (goT_g (g1 q) _))
    · rw [if_pos (decide_eq_true q)]
      exact Or.inr (wayG_1 rfl (goT_g h _))
  · simp only [if_true, if_neg (show ¬ (160 : Int) = 32 by decide), if_neg (show ¬ (160 : Int) = 48 by decide), if_neg (show ¬ (160 : Int) = 176 by decide)]
    refine ⟨?_, Int.le_refl _, wayO_1 ho, wayO_1 o1⟩
    by_cases q : P < (B.1 (cW c) : Int)
    · rw [if_pos (decide_eq_true q)]
      exact Or.inr (wayG_1 rfl (goT_g (g1 q) _))
    · rw [if_neg (by simpa using q)]
      exact Or.inl (wayG_1 rfl (goT_g h _))
  · simp only [if_true, if_neg (show ¬ (176 : Int) = 32 by decide), if_neg (show ¬ (176 : Int) = 48 by decide), if_neg (show ¬ (176 : Int) = 160 by decide)]
    refine ⟨?_, Int.le_refl _, wayO_1 ho, wayO_1 o0⟩
    by_cases q : (B.1 (cW c) : Int) < P
    · rw [if_neg (by simpa using q)]
      exact Or.inl (wayG_1 rfl (goT_g h _))
    · rw [if_pos (decide_eq_true q)]
      exact Or.inr (wayG_1 rfl (goT_g (g0 (by omega)) _))
/-- a packet's place and its end as numbers -/
theorem pkt_i {p : VL} {s : SV} {g : Nat} (gv : gV E (B.1 (cW c)) (B.2.2.2.2 (cW c)) (sH S) th tp p s) (ov : okV E g t p) (k : vk p = 7) : s.1 = 280 ∧ s.2.toInt = vo p + (tp (vt p)).toNat ∧ nearP s.2 := by
  obtain ⟨e, ⟨_, _, p1, p2, _⟩, _⟩ := gV_7 gv k
  have off := ov.2.1 (Or.inr (Or.inr (Or.inl k)))
  have u := ov.2.2.2.2.2.1 (Or.inr (Or.inl k))
  have e2 : s.2.toInt = vo p + (tp (vt p)).toNat := by
    rw [e]
    exact small_i (by omega) (by omega) (by omega)
  refine ⟨by rw [e], e2, ?_⟩
  unfold nearP
  omega
theorem end_i (hB : okB B) {p : VL} {s : SV} (gv : gV E (B.1 (cW c)) (B.2.2.2.2 (cW c)) (sH S) th tp p s) (k : vk p = 8) : s.1 = 280 ∧ s.2.toInt = (B.1 (cW c) : Int) ∧ nearP s.2 := by
  have e := gV_8 gv k
  have l := hB.2.2 (cW c)
  have e2 : s.2.toInt = (B.1 (cW c) : Int) := by
    rw [e]
    show (BitVec.ofNat 64 (B.1 (cW c))).toInt = _
    rw [toInt_c, BitVec.toNat_ofNat]
    split <;> omega
  refine ⟨by rw [e], e2, ?_⟩
  unfold nearP
  omega
theorem nr_0 : nearP 0#64 := by
  unfold nearP
  decide
/-- a place is near to its object -/
theorem pt_nr (hB : okB B) {p : VL} {s : SV} {g : Nat} (hg : g < 4) (gv : gV E (B.1 (cW c)) (B.2.2.2.2 (cW c)) (sH S) th tp p s) (ov : okV E g t p) (kk : vk p = 2 ∨ vk p = 3 ∨ vk p = 4 ∨ vk p = 5 ∨ vk p = 7 ∨ vk p = 8 ∨ vk p = 9) : nearP s.2 := by
  rcases kk with k | k | k | k | k | k | k
  · rw [gV_2 gv k]
    exact nr_0
  · have off := ov.2.1 (Or.inl k)
    rw [gV_3 gv k]
    show -524288 ≤ (BitVec.ofInt 64 (128 + vo p)).toInt ∧ (BitVec.ofInt 64 (128 + vo p)).toInt < 524288
    rw [BitVec.toInt_ofInt, Int.bmod_eq_of_le (by omega) (by omega)]
    omega
  · rw [gV_4 gv k]
    exact nr_0
  · obtain ⟨j, q, _, e, ⟨_, _, p1, p2, _⟩⟩ := gV_5 gv k
    have off := ov.2.1 (Or.inr (Or.inl k))
    have u := ov.2.2.2.2.2.1 (Or.inl k)
    have e2 : s.2.toInt = vo p + q.toNat := by
      rw [e]
      exact small_i (by omega) (by omega) (by omega)
    unfold nearP
    omega
  · exact (pkt_i gv ov k).2.2
  · exact (end_i hB gv k).2.2
  · obtain ⟨i, q, _, e, ⟨_, _, p1, p2, _⟩, _⟩ := gV_9 gv k
    have off := ov.2.1 (Or.inr (Or.inr (Or.inr k)))
    have u := ov.2.2.2.2.2.1 (Or.inr (Or.inr k))
    have e2 : s.2.toInt = vo p + q.toNat := by
      rw [e]
      exact small_i (by omega) (by omega) (by omega)
    unfold nearP
    omega
theorem isCmp_of {w : B64} (h : isCmpO (fOp w)) : isCmp (fC w) := by
  have e : fC w = fOp w / 16 * 16 := rfl
  unfold isCmp
  omega
theorem sid_g (h : gS B E th tp S c) (ho : okS E t S) {w : B64} (hr : rgt w → fS w ≤ 10) : gV E (B.1 (cW c)) (B.2.2.2.2 (cW c)) (sH S) th tp (sidJ S w) (sdT c w) ∧ okV E (sF S - 1) t (sidJ S w) := by
  unfold sidJ sdT
  by_cases e : rgt w
  · rw [if_pos e, if_pos e]
    exact ⟨rV_g h ho (sR_10 (hr e)), rV_ok ho (sR_10 (hr e))⟩
  · rw [if_neg e, if_neg e]
    exact ⟨gV_num (inN_cst _), okV_num⟩
theorem cmp_j (hB : okB B) (h : gS B E th tp S c) (ho : okS E t S) {w : B64} (hw : fD w ≤ 10 ∧ (rgt w → fS w ≤ 10)) (hc : isCmp (fC w)) {g n : Int} (hf : (cmpJ S w g n t).1 = 0) :
    ∃ b, cmT c w = some b ∧ (wayG B E (cmpJ S w g n t).2.1 (goT c (if b = true then g else n)) ∨ wayG B E (cmpJ S w g n t).2.2.1 (goT c (if b = true then g else n))) ∧ resO E t (cmpJ S w g n t) := by
  have f := fld_rng w
  have gd := rV_g h ho (dR_10 hw.1)
  have od := rV_ok ho (dR_10 hw.1)
  obtain ⟨gy, oy⟩ := sid_g h ho hw.2
  have hs : sF S - 1 < 4 := by have := ho.1; omega
  unfold cmpJ at hf ⊢
  split at hf
  · exfalso; have hf : (3 : Int) = 0 := hf; omega
  · rename_i u0
    rw [if_neg u0]
    by_cases c1 : vk (rgV S (dR w)) = 1 ∧ vk (sidJ S w) = 1
    · rw [if_pos c1]
      exact num_j h ho hw hc c1.1 c1.2
    · rw [if_neg c1] at hf ⊢
      by_cases c2 : ((¬ rgt w ∧ widJ w) ∧ (fC w = 16 ∨ fC w = 80) ∧ fI w = 0) ∧ isMb (rgV S (dR w))
      · rw [if_pos c2]
        obtain ⟨⟨⟨nr, wj⟩, ce, i0⟩, mb⟩ := c2
        have se : sdT c w = (0, 0#64) := by
          unfold sdT immJ
          rw [if_neg nr, if_pos wj, i0]
          rfl
        have t16 : cmpB 16 true 0#64 0#64 = true := by rw [cmpB_16]; decide
        have t80 : cmpB 80 true 0#64 0#64 = false := by rw [cmpB_80]; decide
        -- it is 0, or a place
        have alt : (th (vt (rgV S (dR w))) = 0 ∧ rdR c (dR w) = (0, 0#64)) ∨ (¬ th (vt (rgV S (dR w))) = 0 ∧ 1 ≤ (rdR c (dR w)).1 ∧ ¬ (rdR c (dR w)).1 = 6 ∧ nearP (rdR c (dR w)).2) := by
          rcases mb with k6 | k10
          · rcases gV_6 gd k6 with q | ⟨j, _, q, q2⟩
            · exact Or.inl q
            · refine Or.inr ⟨by omega, ?_⟩
              rw [q2]
              show 1 ≤ 16 + 32 * _ + j ∧ ¬ 16 + 32 * _ + j = 6 ∧ nearP 0#64
              exact ⟨by omega, by omega, nr_0⟩
          · rcases gV_10 gd k10 with q | ⟨i, q, q2, _⟩
            · exact Or.inl q
            · refine Or.inr ⟨by omega, ?_⟩
              rw [q2]
              show 1 ≤ 300 + i ∧ ¬ 300 + i = 6 ∧ nearP 0#64
              exact ⟨by omega, by omega, nr_0⟩
        rcases alt with ⟨z, e⟩ | ⟨nz, e1, e6, enr⟩
        · refine ⟨cmpW (fC w) (decide (widJ w)) 0#64 0#64, by unfold cmT; rw [se, e, if_pos ⟨rfl, rfl⟩], ?_⟩
          unfold cmpW
          rw [if_pos (decide_eq_true wj)]
          have gz := becZ_g h (k := vk (rgV S (dR w))) z
          rcases ce with ce | ce
          · rw [ce, t16, if_pos rfl]
            exact ⟨Or.inr (wayG_1 rfl (goT_g gz _)), Int.le_refl _, wayO_1 (becP_ok ho), wayO_1 (becZ_ok ho)⟩
          · rw [ce, t80, if_neg (show ¬ (80 : Int) = 16 by decide)]
            exact ⟨Or.inl (wayG_1 rfl (goT_g gz _)), Int.le_refl _, wayO_1 (becZ_ok ho), wayO_1 (becP_ok ho)⟩
        · have n0 : ¬ ((rdR c (dR w)).1 = 0 ∧ (sdT c w).1 = 0) := fun q => by omega
          refine ⟨decide (fC w = 80), by unfold cmT; rw [if_neg n0, if_pos ⟨⟨wj, ce⟩, ⟨nr, i0⟩, e6, enr⟩], ?_⟩
          have gp := becP_g h nz
          rcases ce with ce | ce
          · rw [ce, if_pos rfl]
            exact ⟨Or.inl (wayG_1 rfl (goT_g gp _)), Int.le_refl _, wayO_1 (becP_ok ho), wayO_1 (becZ_ok ho)⟩
          · rw [ce, if_neg (show ¬ (80 : Int) = 16 by decide)]
            exact ⟨Or.inr (wayG_1 rfl (goT_g gp _)), Int.le_refl _, wayO_1 (becZ_ok ho), wayO_1 (becP_ok ho)⟩
      · rw [if_neg c2] at hf ⊢
        by_cases c3 : (¬ rgt w ∧ widJ w) ∧ (fC w = 16 ∨ fC w = 80) ∧ fI w = 0
        · rw [if_pos c3]
          have k1 : vk (sidJ S w) = 1 := by
            unfold sidJ
            rw [if_neg c3.1.1]
            rfl
          have kk : vk (rgV S (dR w)) = 2 ∨ vk (rgV S (dR w)) = 3 ∨ vk (rgV S (dR w)) = 4 ∨ vk (rgV S (dR w)) = 5 ∨ vk (rgV S (dR w)) = 7 ∨ vk (rgV S (dR w)) = 8 ∨ vk (rgV S (dR w)) = 9 := by
            have r := od.1
            have n6 : ¬ isMb (rgV S (dR w)) := fun e => c2 ⟨c3, e⟩
            unfold isMb at n6
            omega
          have e1 := pt_pos hs gd od kk
          have e6 := pt_ne hs gd od (by omega)
          have enr := pt_nr hB hs gd od kk
          refine ⟨decide (fC w = 80), by unfold cmT; rw [if_neg (fun q => by omega), if_pos ⟨⟨c3.1.2, c3.2.1⟩, ⟨c3.1.1, c3.2.2⟩, e6, enr⟩], Or.inl ?_, Int.le_refl _, wayO_1 ho, wayO_0⟩
          by_cases e80 : fC w = 80
          · rw [if_pos (decide_eq_true e80), if_pos e80]
            exact wayG_1 rfl (goT_g h _)
          · rw [if_neg e80, if_neg (show ¬ decide (fC w = 80) = true by simpa using e80)]
            exact wayG_1 rfl (goT_g h _)
        · rw [if_neg c3] at hf ⊢
          split at hf
          · exfalso; have hf : (14 : Int) = 0 := hf; omega
          · rename_i m0
            rw [if_neg m0]
            by_cases c4 : (widJ w ∧ rgt w) ∧ isOrd (fC w) ∧ vk (rgV S (dR w)) = 7 ∧ vk (sidJ S w) = 8
            · rw [if_pos c4]
              obtain ⟨wr, hord, k7, k8⟩ := c4
              obtain ⟨a1, a2, a3⟩ := pkt_i gd od k7
              obtain ⟨b1, b2, b3⟩ := end_i hB gy k8
              have key := rch_j h ho (g := g) (n := n) (cc := fC w) (P := (rdR c (dR w)).2.toInt) od k7 a2 hord
              have n2 : ¬ ((widJ w ∧ (fC w = 16 ∨ fC w = 80)) ∧ (¬ rgt w ∧ fI w = 0) ∧ ¬ (rdR c (dR w)).1 = 6 ∧ nearP (rdR c (dR w)).2) := fun q => q.2.1.1 wr.2
              refine ⟨_, by unfold cmT; rw [if_neg (fun q => by omega), if_neg n2, if_pos ⟨⟨wr, hord⟩, ⟨a1, b1⟩, a3, b3⟩, b2], key⟩
            · rw [if_neg c4] at hf ⊢
              split at hf
              · rename_i c5
                rw [if_pos c5]
                obtain ⟨wr, hord, k8, k7⟩ := c5
                obtain ⟨a1, a2, a3⟩ := pkt_i gy oy k7
                obtain ⟨b1, b2, b3⟩ := end_i hB gd k8
                have hord2 : isOrd (turC (fC w)) := by
                  unfold turC
                  rcases hord with e | e | e | e <;> rw [e] <;> decide
                have key := rch_j h ho (g := g) (n := n) (cc := turC (fC w)) (P := (sdT c w).2.toInt) oy k7 a2 hord2
                have n2 : ¬ ((widJ w ∧ (fC w = 16 ∨ fC w = 80)) ∧ (¬ rgt w ∧ fI w = 0) ∧ ¬ (rdR c (dR w)).1 = 6 ∧ nearP (rdR c (dR w)).2) := fun q => q.2.1.1 wr.2
                refine ⟨_, by unfold cmT; rw [if_neg (fun q => by omega), if_neg n2, if_pos ⟨⟨wr, hord⟩, ⟨b1, a1⟩, b3, a3⟩, b2], ?_⟩
                unfold turC at key ⊢
                rcases hord with e | e | e | e <;> rw [e] at key ⊢
                · exact key
                · exact key
                · exact key
                · exact key
              · exfalso; have hf : (4 : Int) = 0 := hf; omega
/-! functions -/
theorem ent_j (h : gS B E th tp S c) (ho : okS E t S) {g n : Int} (hf : (entJ S g n t).1 = 0) : ¬ cN c = 4 ∧ wayG B E (entJ S g n t).2.1 (enT c g n) ∧ resO E t (entJ S g n t) := by
  unfold entJ at hf ⊢
  split at hf
  · exfalso; have hf : (13 : Int) = 0 := hf; omega
  · rename_i n4
    rw [if_neg n4]
    obtain ⟨h1, h2, h3, h4, h5, h6, h7, h8⟩ := h
    obtain ⟨⟨o1, o2⟩, o3, o4, o5, o6, o7, o8⟩ := ho
    refine ⟨by rw [h1]; exact n4, wayG_1 (th := th) (tp := tp) rfl ⟨?_, fun f r hf hr => ?_, fun f q hf hq => ?_, fun f hf1 hf => ?_, h5, h6, fun f b hb => ?_, h8⟩, Int.le_refl _, wayO_1 ⟨?_, fun k hk => ?_, fun k k' hk hk' a b => ?_, o5, o6, o7, o8⟩, wayO_0⟩
    · show cN c + 1 = sF S + 1
      rw [h1]
    · have hf : f < sF S + 1 := hf
      show gV E _ _ _ th tp (if 26 * sF S + 1 ≤ 26 * f + r ∧ 26 * f + r ≤ 26 * sF S + 5 then sV S (26 * f + r - 26) else (if 26 * sF S ≤ 26 * f + r ∧ 26 * f + r < 26 * sF S + 26 then unsV else sV S (26 * f + r))) (if f = cN c then (if 1 ≤ r ∧ r ≤ 5 then cR c (cN c - 1) r else nilR) else cR c f r)
      rw [h1]
      by_cases ef : f = sF S
      · subst ef
        rw [if_pos (rfl)]
        by_cases r5 : 1 ≤ r ∧ r ≤ 5
        · rw [if_pos (by omega), if_pos r5, show 26 * sF S + r - 26 = 26 * (sF S - 1) + r by omega]
          exact h2 (sF S - 1) r (by omega) hr
        · rw [if_neg (by omega), if_pos (by omega)]
          exact mk_0 rfl
      · rw [if_neg (by omega), if_neg (by omega), if_neg ef]
        exact h2 f r (by omega) hr
    · have hf : f < sF S + 1 := hf
      show gP E _ _ _ th tp (if 26 * sF S + 1 ≤ 26 * f + 10 + q ∧ 26 * f + 10 + q ≤ 26 * sF S + 5 then sV S (26 * f + 10 + q - 26) else (if 26 * sF S ≤ 26 * f + 10 + q ∧ 26 * f + 10 + q < 26 * sF S + 26 then unsV else sV S (26 * f + 10 + q))) (fun i => if f = cN c then (0, 0, 0#64) else cS c f (8 * q + i))
      rw [h1]
      by_cases ef : f = sF S
      · subst ef
        rw [if_neg (by omega), if_pos (by omega)]
        refine ⟨fun _ i _ hb => ?_, fun e => absurd rfl e⟩
        have hb : (0 : Int).toNat.testBit i = true := hb
        simp at hb
      · rw [if_neg (by omega), if_neg (by omega)]
        have e : (fun i => if f = sF S then ((0, 0, 0#64) : MB) else cS c f (8 * q + i)) = fun i => cS c f (8 * q + i) := by
          funext i
          rw [if_neg ef]
        rw [e]
        exact h3 f q (by omega) hq
    · have hf : f < sF S + 1 := hf
      show (if f = cN c then n else cB c f) = (if f = sF S then n else sB S f)
      rw [h1]
      by_cases ef : f = sF S
      · rw [if_pos ef, if_pos ef]
      · rw [if_neg ef, if_neg ef]
        exact h4 f hf1 (by omega)
    · have hb : (if f = cN c then ((0, 0, 0#64) : MB) else cS c f b).1 = 1 := hb
      show (if f = cN c then ((0, 0, 0#64) : MB) else cS c f b).2.2.toNat < 256
      split at hb
      · cases hb
      · rename_i ef
        rw [if_neg ef]
        exact h7 f b hb
    · show 1 ≤ sF S + 1 ∧ sF S + 1 ≤ 4
      have n4 : ¬ sF S = 4 := n4
      omega
    · have hk : k < 26 * (sF S + 1) := hk
      show okV E (k / 26) t (if 26 * sF S + 1 ≤ k ∧ k ≤ 26 * sF S + 5 then sV S (k - 26) else (if 26 * sF S ≤ k ∧ k < 26 * sF S + 26 then unsV else sV S k))
      by_cases c1 : 26 * sF S + 1 ≤ k ∧ k ≤ 26 * sF S + 5
      · rw [if_pos c1]
        exact okV_up (by omega) (o3 (k - 26) (by omega))
      · rw [if_neg c1]
        split
        · exact okV_uns
        · exact o3 k (by omega)
    · have hk : k < 26 * (sF S + 1) := hk
      have hk' : k' < 26 * (sF S + 1) := hk'
      have src : ∀ j, j < 26 * (sF S + 1) → (∃ i, i < 26 * sF S ∧ (if 26 * sF S + 1 ≤ j ∧ j ≤ 26 * sF S + 5 then sV S (j - 26) else (if 26 * sF S ≤ j ∧ j < 26 * sF S + 26 then unsV else sV S j)) = sV S i) ∨ (if 26 * sF S + 1 ≤ j ∧ j ≤ 26 * sF S + 5 then sV S (j - 26) else (if 26 * sF S ≤ j ∧ j < 26 * sF S + 26 then unsV else sV S j)) = unsV := fun j hj => by
        by_cases c1 : 26 * sF S + 1 ≤ j ∧ j ≤ 26 * sF S + 5
        · rw [if_pos c1]
          exact Or.inl ⟨j - 26, by omega, rfl⟩
        · rw [if_neg c1]
          by_cases c2 : 26 * sF S ≤ j ∧ j < 26 * sF S + 26
          · rw [if_pos c2]
            exact Or.inr rfl
          · rw [if_neg c2]
            exact Or.inl ⟨j, by omega, rfl⟩
      have a : vk (if 26 * sF S + 1 ≤ k ∧ k ≤ 26 * sF S + 5 then sV S (k - 26) else (if 26 * sF S ≤ k ∧ k < 26 * sF S + 26 then unsV else sV S k)) = 9 := a
      have b : vk (if 26 * sF S + 1 ≤ k' ∧ k' ≤ 26 * sF S + 5 then sV S (k' - 26) else (if 26 * sF S ≤ k' ∧ k' < 26 * sF S + 26 then unsV else sV S k')) = 10 := b
      show ¬ vt (if 26 * sF S + 1 ≤ k ∧ k ≤ 26 * sF S + 5 then sV S (k - 26) else (if 26 * sF S ≤ k ∧ k < 26 * sF S + 26 then unsV else sV S k)) = vt (if 26 * sF S + 1 ≤ k' ∧ k' ≤ 26 * sF S + 5 then sV S (k' - 26) else (if 26 * sF S ≤ k' ∧ k' < 26 * sF S + 26 then unsV else sV S k'))
      have u0 : vk unsV = 0 := rfl
      rcases src k hk with ⟨i, i1, i2⟩ | e
      · rcases src k' hk' with ⟨i', i1', i2'⟩ | e'
        · rw [i2] at a ⊢
          rw [i2'] at b ⊢
          exact o4 i i' i1 i1' a b
        · rw [e'] at b
          exfalso; omega
      · rw [e] at a
        exfalso; omega
theorem exi_j (h : gS B E th tp S c) (ho : okS E t S) (hf : (exiJ S t).1 = 0) : resG B E (exiJ S t) (exT c) ∧ resO E t (exiJ S t) := by
  have g0 := rV_g h ho (r := 0) (by omega)
  have k00 := rV_ok ho (r := 0) (by omega)
  unfold exiJ at hf ⊢
  split at hf
  · exfalso; have hf : (3 : Int) = 0 := hf; omega
  · rename_i n0
    rw [if_neg n0]
    split at hf
    · exfalso; have hf : (7 : Int) = 0 := hf; omega
    · rename_i n1
      rw [if_neg n1]
      have k1 : vk (rgV S 0) = 1 := Decidable.not_not.mp n1
      have z := (gV_1 g0 k1).1
      unfold exT
      rw [if_neg (not_not_intro z)]
      obtain ⟨h1, h2, h3, h4, h5, h6, h7, h8⟩ := h
      obtain ⟨⟨o1, o2⟩, o3, o4, o5, o6, o7, o8⟩ := ho
      by_cases f1 : sF S = 1
      · rw [if_pos f1] at hf ⊢
        rw [if_pos (h1.trans f1)]
        split at hf
        · rename_i e
          rw [if_pos e]
          refine ⟨⟨1, c, rfl, Or.inr ⟨Or.inl rfl, fun _ => ⟨⟨rfl, rfl⟩, z, h1.trans f1⟩, fun i hi => ?_⟩⟩, Int.le_refl _, wayO_0, wayO_0⟩
          cases q : B.2.2.2.1 (cW c) i with
          | false => rfl
          | true =>
            obtain ⟨x, x1, _⟩ := (h5 i hi).mp q
            rw [e] at x1
            cases x1
        · exfalso; have hf : (10 : Int) = 0 := hf; omega
      · rw [if_neg f1] at hf ⊢
        rw [if_neg (by rw [h1]; exact f1)]
        have hpc : cB c (cN c - 1) = sB S (sF S - 1) := by
          rw [h1]
          exact h4 (sF S - 1) (by omega) (by omega)
        refine ⟨⟨0, _, rfl, Or.inl ⟨rfl, Or.inl (wayG_1 (th := th) (tp := tp) hpc ⟨?_, fun f r hf hr => ?_, fun f q hf hq => ?_, fun f hf1 hf => ?_, h5, h6, h7, h8⟩)⟩⟩, Int.le_refl _, wayO_1 ⟨?_, fun k hk => ?_, fun k k' hk hk' a b => ?_, o5, o6, o7, o8⟩, wayO_0⟩
        · show cN c - 1 = sF S - 1
          rw [h1]
        · have hf : f < sF S - 1 := hf
          show gV E _ _ _ th tp (if 26 * (sF S - 1 - 1) + 1 ≤ 26 * f + r ∧ 26 * f + r ≤ 26 * (sF S - 1 - 1) + 5 then unsV else (if 26 * f + r = 26 * (sF S - 1 - 1) + 0 then rgV S 0 else sV S (26 * f + r))) (if f = cN c - 2 ∧ 1 ≤ r ∧ r ≤ 5 then nilR else (if f = cN c - 2 ∧ r = 0 then rdR c 0 else cR c f r))
          rw [h1]
          by_cases c1 : 26 * (sF S - 1 - 1) + 1 ≤ 26 * f + r ∧ 26 * f + r ≤ 26 * (sF S - 1 - 1) + 5
          · rw [if_pos c1]
            exact mk_0 rfl
          · have d1 : ¬ (f = sF S - 2 ∧ 1 ≤ r ∧ r ≤ 5) := by omega
            rw [if_neg c1, if_neg d1]
            by_cases c2 : 26 * f + r = 26 * (sF S - 1 - 1) + 0
            · have d2 : f = sF S - 2 ∧ r = 0 := by omega
              rw [if_pos c2, if_pos d2]
              exact g0
            · have d2 : ¬ (f = sF S - 2 ∧ r = 0) := by omega
              rw [if_neg c2, if_neg d2]
              exact h2 f r (by omega) hr
        · have hf : f < sF S - 1 := hf
          show gP E _ _ _ th tp (if 26 * (sF S - 1 - 1) + 1 ≤ 26 * f + 10 + q ∧ 26 * f + 10 + q ≤ 26 * (sF S - 1 - 1) + 5 then unsV else (if 26 * f + 10 + q = 26 * (sF S - 1 - 1) + 0 then rgV S 0 else sV S (26 * f + 10 + q))) _
          rw [if_neg (by omega), if_neg (by omega)]
          exact h3 f q (by omega) hq
        · have hf : f < sF S - 1 := hf
          exact h4 f hf1 (by omega)
        · show 1 ≤ sF S - 1 ∧ sF S - 1 ≤ 4
          omega
        · have hk : k < 26 * (sF S - 1) := hk
          show okV E (k / 26) t (if 26 * (sF S - 1 - 1) + 1 ≤ k ∧ k ≤ 26 * (sF S - 1 - 1) + 5 then unsV else (if k = 26 * (sF S - 1 - 1) + 0 then rgV S 0 else sV S k))
          split
          · exact okV_uns
          · split
            · have r1 := k00.1
              refine ⟨r1, ?_, ?_, ?_, ?_, ?_, ?_, ?_, ?_, ?_⟩ <;> intro e <;> (exfalso; omega)
            · exact o3 k (by omega)
        · have hk : k < 26 * (sF S - 1) := hk
          have hk' : k' < 26 * (sF S - 1) := hk'
          have src : ∀ j, vk (if 26 * (sF S - 1 - 1) + 1 ≤ j ∧ j ≤ 26 * (sF S - 1 - 1) + 5 then unsV else (if j = 26 * (sF S - 1 - 1) + 0 then rgV S 0 else sV S j)) = 9 ∨ vk (if 26 * (sF S - 1 - 1) + 1 ≤ j ∧ j ≤ 26 * (sF S - 1 - 1) + 5 then unsV else (if j = 26 * (sF S - 1 - 1) + 0 then rgV S 0 else sV S j)) = 10 → (if 26 * (sF S - 1 - 1) + 1 ≤ j ∧ j ≤ 26 * (sF S - 1 - 1) + 5 then unsV else (if j = 26 * (sF S - 1 - 1) + 0 then rgV S 0 else sV S j)) = sV S j := fun j q => by
            have u0 : vk unsV = 0 := rfl
            split at q
            · exfalso; omega
            · rename_i c1
              rw [if_neg c1]
              split at q
              · exfalso; omega
              · rename_i c2
                rw [if_neg c2]
          have a : vk (if 26 * (sF S - 1 - 1) + 1 ≤ k ∧ k ≤ 26 * (sF S - 1 - 1) + 5 then unsV else (if k = 26 * (sF S - 1 - 1) + 0 then rgV S 0 else sV S k)) = 9 := a
          have b : vk (if 26 * (sF S - 1 - 1) + 1 ≤ k' ∧ k' ≤ 26 * (sF S - 1 - 1) + 5 then unsV else (if k' = 26 * (sF S - 1 - 1) + 0 then rgV S 0 else sV S k')) = 10 := b
          show ¬ vt (if 26 * (sF S - 1 - 1) + 1 ≤ k ∧ k ≤ 26 * (sF S - 1 - 1) + 5 then unsV else (if k = 26 * (sF S - 1 - 1) + 0 then rgV S 0 else sV S k)) = vt (if 26 * (sF S - 1 - 1) + 1 ≤ k' ∧ k' ≤ 26 * (sF S - 1 - 1) + 5 then unsV else (if k' = 26 * (sF S - 1 - 1) + 0 then rgV S 0 else sV S k'))
          have ea := src k (Or.inl a)
          have eb := src k' (Or.inr b)
          rw [ea] at a ⊢
          rw [eb] at b ⊢
          exact o4 k k' (by omega) (by omega) a b
end CM
