section HQ
variable {W : Type} {B : WB W} {E : EV} {th : Int → Nat} {tp : Int → B64} {S : ST} {c : TC W} {t : Int}
theorem hlpJ_num {h n : Int} (h0 : hlpF E S h = 0) (h1 : ¬ h = 1) (h2 : ¬ h = 131) : hlpJ E S h n t = (0, some (n, wV (unsA (hlpS S h)) 0 (numV (if h = 7 then wideN 4 else anyN))), none, t) := by
  unfold hlpJ
  rw [if_neg (not_not_intro h0), if_neg h1, if_neg h2]
theorem hlpS_id {h : Int} (h1 : ¬ h = 26) (h2 : ¬ h = 44) (h3 : ¬ (h = 132 ∨ h = 133)) : hlpS S h = S := by
  unfold hlpS
  rw [if_neg h1, if_neg h2, if_neg h3]
theorem w4_in {x : B64} (h : x.toNat < 4294967296) : inN (wideN 4) x := inN_wide (by
  have e : 2 ^ (8 * 4) = 4294967296 := by decide
  omega)
/-- 1, 2, 3 -/
theorem hlp_key {H : WH W} (hB : okB B) (hH : okH B H) (hE : okE E) (g : gS B E th tp S c) (ho : okS E t S) {h n : Int} (hh : h = 1 ∨ h = 2 ∨ h = 3) (hf : hlpF E S h = 0) : resG B E (hlpJ E S h n t) (hpT B H E c h n) ∧ resO E t (hlpJ E S h n t) := by
  have hs : sF S - 1 < 4 := by have := ho.1; omega
  have hN : cN c = sF S := g.1
  have g1 := rV_g g ho (r := 1) (by omega)
  have o1 := rV_ok ho (r := 1) (by omega)
  have g2 := rV_g g ho (r := 2) (by omega)
  have o2 := rV_ok ho (r := 2) (by omega)
  have g3 := rV_g g ho (r := 3) (by omega)
  have o3 := rV_ok ho (r := 3) (by omega)
  have g4 := rV_g g ho (r := 4) (by omega)
  have fs : wntM E (rgV S 1) 0 1 = 0 ∧ wntB E S (rgV S 2) (E.2.1 (vw (rgV S 1)).toNat) = 0 ∧ (h = 2 → wntB E S (rgV S 3) (E.2.2 (vw (rgV S 1)).toNat) = 0 ∧ wntK (rgV S 4) 1 = 0) := by
    unfold hlpF at hf
    rcases hh with rfl | rfl | rfl
    · rw [if_pos (Or.inl rfl)] at hf
      exact ⟨(fst_0 hf).1, (fst_0 hf).2, fun e => by exfalso; omega⟩
    · rw [if_neg (by decide), if_pos rfl] at hf
      obtain ⟨a, b⟩ := fst_0 hf
      obtain ⟨a, b2⟩ := fst_0 a
      exact ⟨(fst_0 a).1, (fst_0 a).2, fun _ => ⟨b2, b⟩⟩
    · rw [if_pos (Or.inr rfl)] at hf
      exact ⟨(fst_0 hf).1, (fst_0 hf).2, fun e => by exfalso; omega⟩
  obtain ⟨f1, f2, f3⟩ := fs
  obtain ⟨m1, m2, m3, m4, m5⟩ := map_g g1 o1 f1
  have em := hE (vw (rgV S 1)).toNat (by omega) m4.1
  have ek := em.2 m4.2.2
  obtain ⟨l, el⟩ := byt_g hB g ho g2 o2 (k := (E.2.1 (vw (rgV S 1)).toNat).toNat) (by omega) (by omega) f2
  unfold hpT
  rw [if_pos hh, if_neg (not_not_intro m1), m2, el]
  simp only
  rcases hh with rfl | rfl | rfl
  · rw [if_pos rfl]
    have hj : hlpJ E S 1 n t = (0, some (n, wV (unsA S) 0 (mkV 6 (vw (rgV S 1)) (t + 1))), none, t + 1) := by
      unfold hlpJ
      rw [if_neg (not_not_intro hf), if_pos rfl]
    rw [hj]
    have ok : resO E t (0, some (n, wV (unsA S) 0 (mkV 6 (vw (rgV S 1)) (t + 1))), none, t + 1) := by
      refine ⟨by show t ≤ t + 1; omega, wayO_1 (wV_ok (uns_ok ho) (show t ≤ t + 1 by omega) (by omega) ?_ (no_rec (S := unsA S) (by decide))), wayO_0⟩
      have k1 : vk (mkV 6 (vw (rgV S 1)) (t + 1)) = 6 := rfl
      have t0 : 0 ≤ t := ho.2.2.2.2.2.2
      refine ⟨by omega, ?_, ?_, ?_, fun _ => ⟨m3, ek.2⟩, ?_, fun _ => by show (1 : Int) ≤ t + 1 ∧ t + 1 ≤ t + 1; omega, ?_, ?_, ?_⟩
      all_goals (intro e; exfalso; omega)
    refine ⟨?_, ok⟩
    have fin : ∀ (o : Nat) (r : SV), ((o = 0 ∧ r = (0, 0#64)) ∨ ∃ j : Nat, j < 32 ∧ o = 16 + 32 * (vw (rgV S 1)).toNat + j ∧ r = (16 + 32 * (vw (rgV S 1)).toNat + j, 0#64)) → resG B E (0, some (n, wV (unsA S) 0 (mkV 6 (vw (rgV S 1)) (t + 1))), none, t + 1) (bhT c (cS c) (cW c) r n) := fun o r hr => by
      have gt := gS_th g ho (show t < t + 1 by omega) o
      refine ⟨0, _, rfl, Or.inl ⟨rfl, Or.inl (wayG_1 rfl (bh_g rfl hN ho.1.1 gt (mk_6 rfl ?_)))⟩⟩
      show ((if t + 1 = t + 1 then o else th (t + 1)) = 0 ∧ r = (0, 0#64)) ∨ ∃ j : Nat, j < 32 ∧ (if t + 1 = t + 1 then o else th (t + 1)) = 16 + 32 * (vw (rgV S 1)).toNat + j ∧ r = (16 + 32 * (vw (rgV S 1)).toNat + j, 0#64)
      rw [if_pos rfl]
      exact hr
    cases q : H.2.2.1 (cW c) (vw (rgV S 1)) l with
    | none => exact fin 0 _ (Or.inl ⟨rfl, rfl⟩)
    | some j => exact fin (16 + 32 * (vw (rgV S 1)).toNat + j) _ (Or.inr ⟨j, hH.2.2.1 _ _ _ _ q, rfl, rfl⟩)
  · rw [if_neg (by decide), if_neg (by decide)]
    obtain ⟨b1, b2⟩ := f3 rfl
    obtain ⟨l3, el3⟩ := byt_g hB g ho g3 o3 (k := (E.2.2 (vw (rgV S 1)).toNat).toNat) (by omega) (by omega) b1
    rw [el3]
    simp only
    rw [if_neg (not_not_intro (gV_1 g4 (knd_g b2)).1), hlpJ_num hf (by decide) (by decide), hlpS_id (by decide) (by decide) (by decide), if_neg (by decide)]
    exact bh_num rfl hN ho (same_mk g rfl (hH.2.2.2.1 _ _ _ _ _)) (inN_any _)
  · rw [if_neg (by decide), if_pos rfl, hlpJ_num hf (by decide) (by decide), hlpS_id (by decide) (by decide) (by decide), if_neg (by decide)]
    exact bh_num rfl hN ho (same_mk g rfl (hH.2.2.2.2.1 _ _ _)) (inN_any _)
/-- 5, 6, 7, 12 -/
theorem hlp_b {H : WH W} (hB : okB B) (hH : okH B H) (g : gS B E th tp S c) (ho : okS E t S) {h n : Int} (hh : h = 5 ∨ h = 6 ∨ h = 7 ∨ h = 12) (hf : hlpF E S h = 0) : resG B E (hlpJ E S h n t) (hpT B H E c h n) ∧ resO E t (hlpJ E S h n t) := by
  have hs : sF S - 1 < 4 := by have := ho.1; omega
  have hN : cN c = sF S := g.1
  have g1 := rV_g g ho (r := 1) (by omega)
  have o1 := rV_ok ho (r := 1) (by omega)
  have g2 := rV_g g ho (r := 2) (by omega)
  have o2 := rV_ok ho (r := 2) (by omega)
  have g3 := rV_g g ho (r := 3) (by omega)
  unfold hpT
  rcases hh with rfl | rfl | rfl | rfl
  · rw [if_neg (by decide), if_pos rfl, hlpJ_num hf (by decide) (by decide), hlpS_id (by decide) (by decide) (by decide), if_neg (by decide)]
    exact bh_num rfl hN ho g (inN_any _)
  · rw [if_neg (by decide), if_neg (by decide), if_pos rfl, hlpJ_num hf (by decide) (by decide), hlpS_id (by decide) (by decide) (by decide), if_neg (by decide)]
    unfold hlpF at hf
    rw [if_neg (by decide), if_neg (by decide), if_neg (by decide), if_pos rfl] at hf
    obtain ⟨a, b⟩ := fst_0 hf
    have a : vk (rgV S 2) = 1 ∧ ¬ jA (vn (rgV S 2)) = 0#64 ∧ ¬ 64#64 < jB (vn (rgV S 2)) := by simpa using (wntA_0 a).2.2
    obtain ⟨z, _, _, p1, p2, _⟩ := gV_1 g2 a.1
    have e0 : ¬ (jA (vn (rgV S 2))).toNat = 0 := fun e => a.2.1 (BitVec.eq_of_toNat_eq e)
    have e64 : (jB (vn (rgV S 2))).toNat ≤ 64 := by
      have := a.2.2
      rw [BitVec.lt_def] at this
      have : (64#64).toNat = 64 := rfl
      omega
    have ei : (jB (vn (rgV S 2))).toInt = (jB (vn (rgV S 2))).toNat := by rw [toInt_c, if_pos (by omega)]
    obtain ⟨l, el⟩ := byt_g hB g ho g1 o1 (k := (rdR c 2).2.toNat) (by omega) (by omega) b
    rw [if_neg (by omega), el]
    exact bh_num rfl hN ho (same_mk g rfl (hH.2.2.2.2.2.1 _ _)) (inN_any _)
  · rw [if_neg (by decide), if_neg (by decide), if_neg (by decide), if_pos rfl, hlpJ_num hf (by decide) (by decide), hlpS_id (by decide) (by decide) (by decide), if_pos rfl]
    exact bh_num rfl hN ho (same_mk g rfl (hH.2.2.2.2.2.2.1 _).1) (w4_in (hH.2.2.2.2.2.2.1 _).2)
  · rw [if_neg (by decide), if_neg (by decide), if_neg (by decide), if_neg (by decide), if_pos rfl, hlpJ_num hf (by decide) (by decide), hlpS_id (by decide) (by decide) (by decide), if_neg (by decide)]
    unfold hlpF at hf
    rw [if_neg (by decide), if_neg (by decide), if_neg (by decide), if_neg (by decide), if_pos rfl] at hf
    obtain ⟨a, b⟩ := fst_0 hf
    obtain ⟨a, a3⟩ := fst_0 a
    obtain ⟨a1, a2⟩ := fst_0 a
    obtain ⟨m1, m2, -⟩ := map_g g2 o2 a2
    have z := (gV_1 g3 (knd_g a3)).1
    have e1 := gV_2 g1 (knd_g a1)
    split at b
    · exfalso; omega
    · rename_i f1
      have c1 : cN c = 1 := by have := ho.1; omega
      split at b
      · rename_i hnil
        rw [if_neg (fun q => by rcases q with q | q | q | q; exact q e1; exact q m1; exact q z; exact q c1), m2]
        cases q : H.2.2.2.2.2.2.2.2.1 (cW c) (vw (rgV S 2)) (rdR c 3).2 with
        | none => exact bh_num rfl hN ho g (inN_any _)
        | some v =>
          refine ⟨⟨2, _, rfl, Or.inr ⟨Or.inr rfl, fun e => by exfalso; omega, fun i hi => ?_⟩⟩, Int.le_refl _, wayO_1 (wV_ok (uns_ok ho) (Int.le_refl _) (by omega) okV_num no_num), wayO_0⟩
          show B.2.2.2.1 v i = false
          rw [hH.2.2.2.2.2.2.2.1 _ _ _ _ q]
          cases q2 : B.2.2.2.1 (cW c) i with
          | false => rfl
          | true =>
            obtain ⟨x, x1, _⟩ := (g.2.2.2.2.1 i hi).mp q2
            rw [hnil] at x1
            cases x1
      · exfalso; omega
/-- 26 -/
theorem hlp_26 {H : WH W} (hB : okB B) (hH : okH B H) (g : gS B E th tp S c) (ho : okS E t S) {n : Int} (hf : hlpF E S 26 = 0) : resG B E (hlpJ E S 26 n t) (hpT B H E c 26 n) ∧ resO E t (hlpJ E S 26 n t) := by
  have hs : sF S - 1 < 4 := by have := ho.1; omega
  have hN : cN c = sF S := g.1
  have g2 := rV_g g ho (r := 2) (by omega)
  have g3 := rV_g g ho (r := 3) (by omega)
  have o3 := rV_ok ho (r := 3) (by omega)
  have g4 := rV_g g ho (r := 4) (by omega)
  rw [hlpJ_num hf (by decide) (by decide), if_neg (by decide)]
  unfold hlpF at hf
  rw [if_neg (by decide), if_neg (by decide), if_neg (by decide), if_neg (by decide), if_neg (by decide), if_pos rfl] at hf
  obtain ⟨a, ar⟩ := fst_0 hf
  obtain ⟨a, a3⟩ := fst_0 a
  obtain ⟨a, a4⟩ := fst_0 a
  obtain ⟨a1, a2⟩ := fst_0 a
  have a4 : vk (rgV S 4) = 1 ∧ ¬ jA (vn (rgV S 4)) = 0#64 ∧ ¬ 128#64 < jB (vn (rgV S 4)) := by simpa using (wntA_0 a4).2.2
  have k3 := knd_g a3
  obtain ⟨z4, _, _, p1, p2, _⟩ := gV_1 g4 a4.1
  have e0 : ¬ (jA (vn (rgV S 4))).toNat = 0 := fun e => a4.2.1 (BitVec.eq_of_toNat_eq e)
  have e64 : (jB (vn (rgV S 4))).toNat ≤ 128 := by
    have := a4.2.2
    rw [BitVec.lt_def] at this
    have : (128#64).toNat = 128 := rfl
    omega
  have ei : (jB (vn (rgV S 4))).toInt = (jB (vn (rgV S 4))).toNat := by rw [toInt_c, if_pos (by omega)]
  by_cases rm : room E (rgV S 3) 0 (jB (vn (rgV S 4))).toInt
  · rw [ei] at rm
    obtain ⟨lo, lx⟩ := room_g g ho (Or.inl k3) g3 o3 (by omega) (by omega) rm
    rw [offN_0] at lo lx
    have lx := lx k3
    have xe : (vo (rgV S 3) + 128).toNat = (rdR c 3).2.toNat := by omega
    have e3 := gV_3 g3 k3
    have v3 := o3.2.2.1 k3
    have f5 : 2 ≤ (rdR c 3).1 ∧ (rdR c 3).1 ≤ 5 := by
      rw [e3]
      show 2 ≤ (2 + vw (rgV S 3)).toNat ∧ (2 + vw (rgV S 3)).toNat ≤ 5
      omega
    unfold hpT
    rw [if_neg (by decide), if_neg (by decide), if_neg (by decide), if_neg (by decide), if_neg (by decide), if_pos rfl]
    rw [if_neg (fun q => by rcases q with q | q | q; exact q (gV_1 g2 (knd_g a2)).1; exact q f5; exact q ⟨z4, by omega, by omega⟩)]
    have hl := hH.2.2.2.2.2.2.2.2.1 (cW c) (rdR c 2).2 (rdR c 4).2.toNat
    obtain ⟨c', w1, w2, w3, w4, -⟩ := wrL_g hB g ho hl.1 hl.2 (locG_le lo (k := (rdR c 4).2.toNat) (by omega))
    obtain ⟨b1, b2, b3⟩ := w4 k3
    rw [w1]
    simp only
    have es : hlpS S 26 = putB S (vw (rgV S 3)).toNat (rdR c 3).2.toNat (jB (vn (rgV S 4))).toNat (if jB (vn (rgV S 4)) < jA (vn (rgV S 4)) then (jB (vn (rgV S 4))).toNat else (jA (vn (rgV S 4))).toNat) := by
      unfold hlpS
      rw [if_pos rfl, xe]
    rcases lo with lo | lo
    · have gp : gS B E th tp (hlpS S 26) c' := by
        rw [es]
        refine putB_g (m := (rdR c 4).2.toNat) g lo.2.1.2 lo.2.2 ⟨?_, by omega⟩ b1 b2 fun j j1 j2 => ?_
        · split
          · rename_i q
            rw [BitVec.lt_def] at q
            omega
          · exact p1
        · obtain ⟨q1, q2⟩ := b3 j j1 j2
          rw [q1]
          exact ⟨rfl, q2⟩
      have wsame : cW c' = cW c := by
        -- only stacks have changed
        obtain ⟨c2, x1, _, x3, _⟩ := wrL_stk (B := B) (f := (vw (rgV S 3)).toNat) (by omega) (H.2.2.2.2.2.2.2.2.2.1 (cW c) (rdR c 2).2 (rdR c 4).2.toNat).1 (rdR c 3).2.toNat c (by rw [hl.1]; have := lo.2.2; omega)
        rw [← lo.2.1.1, w1] at x1
        cases x1
        exact x3
      have gp2 : gS B E th tp (hlpS S 26) (cP c, cN c, cR c, cS c', cB c, cW c) := gS_same gp ⟨⟨b1.1.1.symm, b1.1.2.1.symm, b1.1.2.2.1.symm, b1.1.2.2.2.symm⟩, by rw [wsame], by rw [wsame], by rw [wsame]⟩ rfl
      have okp : okS E t (hlpS S 26) := by rw [es]; exact putB_ok ho
      exact bh_num (by rw [es]; rfl) hN okp gp2 (inN_any _)
    · exact absurd k3 lo.1
  · rw [if_neg rm] at ar
    exfalso; omega
/-- 44 -/
theorem hlp_44 {H : WH W} (hH : okH B H) (g : gS B E th tp S c) (ho : okS E t S) {n : Int} (hf : hlpF E S 44 = 0) : resG B E (hlpJ E S 44 n t) (hpT B H E c 44 n) ∧ resO E t (hlpJ E S 44 n t) := by
  have hN : cN c = sF S := g.1
  have g2 := rV_g g ho (r := 2) (by omega)
  rw [hlpJ_num hf (by decide) (by decide), if_neg (by decide)]
  unfold hlpF at hf
  rw [if_neg (by decide), if_neg (by decide), if_neg (by decide), if_neg (by decide), if_neg (by decide), if_neg (by decide), if_pos rfl] at hf
  obtain ⟨a1, a2⟩ := fst_0 hf
  unfold hpT
  rw [if_neg (by decide), if_neg (by decide), if_neg (by decide), if_neg (by decide), if_neg (by decide), if_neg (by decide), if_pos rfl, if_neg (not_not_intro (gV_1 g2 (knd_g a2)).1)]
  have hw := hH.2.2.2.2.2.2.2.2.2.1 (cW c) (rdR c 2).2
  have es : hlpS S 44 = allV S pktV := by
    unfold hlpS
    rw [if_neg (by decide), if_pos rfl]
  have pk : ∀ v, pktV v = v ∨ pktV v = unsV := fun v => by
    unfold pktV
    split
    · exact Or.inr rfl
    · exact Or.inl rfl
  have gp : gS B E th tp (allV S pktV) (cP c, cN c, cR c, cS c, cB c, (H.2.2.2.2.2.2.2.2.2.2.1 (cW c) (rdR c 2).2).1) := by
    refine all_g (c' := (cP c, cN c, cR c, cS c, cB c, (H.2.2.2.2.2.2.2.2.2.2.1 (cW c) (rdR c 2).2).1)) (hd' := sH S) (th' := th) (tp' := tp) g rfl rfl rfl rfl (fun j hj => ?_) (fun i hi => ?_) g.2.2.2.2.2.1 g.2.2.2.2.2.2.2
    · unfold pktV
      by_cases e : vk (sV S j) = 7 ∨ vk (sV S j) = 8
      · simp only [if_pos e]
        exact ⟨⟨fun k0 => by exfalso; omega, fun _ _ => rfl⟩, fun s _ => mk_0 rfl⟩
      · simp only [if_neg e]
        refine ⟨⟨fun _ => trivial, fun a b => absurd b a⟩, fun s gv => ?_⟩
        obtain ⟨h1, h2, h3, h4, h5, h6, h7, h8, h9, h10⟩ := gv
        refine ⟨h1, h2, h3, h4, h5, h6, fun k => absurd (Or.inl k) e, fun k => absurd (Or.inr k) e, ?_, ?_⟩
        · show vk (sV S j) = 9 → ∃ (i : Nat) (p : B64), _ ∧ _ ∧ _ ∧ B.2.2.2.2 (H.2.2.2.2.2.2.2.2.2.2.1 (cW c) (rdR c 2).2).1 i = _
          rw [hw.2]
          exact h9
        · show vk (sV S j) = 10 → _ ∨ ∃ i : Nat, _ ∧ _ ∧ B.2.2.2.2 (H.2.2.2.2.2.2.2.2.2.2.1 (cW c) (rdR c 2).2).1 i = _
          rw [hw.2]
          exact h10
    · show B.2.2.2.1 (H.2.2.2.2.2.2.2.2.2.2.1 (cW c) (rdR c 2).2).1 i = true ↔ _
      rw [hw.1]
      exact g.2.2.2.2.1 i hi
  have okp : okS E t (allV S pktV) := by
    have u0 : vk unsV = 0 := rfl
    refine all_ok (hd' := sH S) ho (Int.le_refl _) (fun j hj => ?_) (fun j j' hj hj' p q => ?_) (hd_ok ho)
    · rcases pk (sV S j) with e | e <;> rw [e]
      · exact ho.2.1 j hj
      · exact okV_uns
    · rcases pk (sV S j) with e | e
      · rcases pk (sV S j') with e' | e'
        · rw [e] at p ⊢
          rw [e'] at q ⊢
          exact ho.2.2.1 j j' hj hj' p q
        · rw [e'] at q; exfalso; omega
      · rw [e] at p; exfalso; omega
  rw [es]
  exact bh_num rfl hN okp gp (inN_any _)
/-- 131 -/
theorem hlp_131 {H : WH W} (hH : okH B H) (g : gS B E th tp S c) (ho : okS E t S) {n : Int} (hf : hlpF E S 131 = 0) : resG B E (hlpJ E S 131 n t) (hpT B H E c 131 n) ∧ resO E t (hlpJ E S 131 n t) := by
  have hN : cN c = sF S := g.1
  have g1 := rV_g g ho (r := 1) (by omega)
  have o1 := rV_ok ho (r := 1) (by omega)
  have g2 := rV_g g ho (r := 2) (by omega)
  have t0 : 0 ≤ t := ho.2.2.2.2.2.2
  have hj : hlpJ E S 131 n t = (0, some (n, ((wV (unsA S) 0 (mkV 10 (jV (vn (rgV S 2))).toInt (t + 1))).1, (wV (unsA S) 0 (mkV 10 (jV (vn (rgV S 2))).toInt (t + 1))).2.1, sB S, sH S ++ [t + 1])), none, t + 1) := by
    unfold hlpJ
    rw [if_neg (not_not_intro hf), if_neg (by decide), if_pos rfl]
  rw [hj]
  unfold hlpF at hf
  rw [if_neg (by decide), if_neg (by decide), if_neg (by decide), if_neg (by decide), if_neg (by decide), if_neg (by decide), if_neg (by decide), if_pos rfl] at hf
  obtain ⟨a, am⟩ := fst_0 hf
  obtain ⟨a, a3⟩ := fst_0 a
  obtain ⟨a1, a2⟩ := fst_0 a
  obtain ⟨m1, m2, -⟩ := map_g g1 o1 a1
  have a2 : vk (rgV S 2) = 1 ∧ isC (vn (rgV S 2)) ∧ 1 ≤ (jV (vn (rgV S 2))).toInt ∧ (jV (vn (rgV S 2))).toInt ≤ 64 := by simpa using (wntA_0 a2).2.2
  obtain ⟨z, i2⟩ := gV_1 g2 a2.1
  have e2 := gN_const i2.2 a2.2.1
  have len : (sH S).length < 64 := by
    have := (hd_ok ho).2.2
    split at am
    · exfalso; omega
    · omega
  unfold hpT
  rw [if_neg (by decide), if_neg (by decide), if_neg (by decide), if_neg (by decide), if_neg (by decide), if_neg (by decide), if_neg (by decide), if_pos rfl]
  rw [if_neg (fun q => by rcases q with q | q; exact q m1; exact q ⟨z, by rw [e2]; exact a2.2.2.1, by rw [e2]; exact a2.2.2.2⟩), m2, e2]
  have hw := hH.2.2.2.2.2.2.2.2.2.2.1 (cW c) (vw (rgV S 1)) (jV (vn (rgV S 2))).toInt
  have nin : ¬ (t + 1) ∈ sH S := fun q => by have := (hd_ok ho).1 _ q; omega
  refine ⟨?_, by show t ≤ t + 1; omega, wayO_1 ?_, wayO_0⟩
  · -- the record's TAG
    have fin : ∀ (o : Nat) (r : SV), (∀ i : Nat, i < 64 → (B.2.2.2.1 (H.2.2.2.2.2.2.2.2.2.2.2.1 (cW c) (vw (rgV S 1)) (jV (vn (rgV S 2))).toInt).1 i = true ↔ (o = 300 + i ∨ B.2.2.2.1 (cW c) i = true))) → (∀ i : Nat, i < 64 → B.2.2.2.1 (cW c) i = true → ¬ o = 300 + i ∧ B.2.2.2.2 (H.2.2.2.2.2.2.2.2.2.2.2.1 (cW c) (vw (rgV S 1)) (jV (vn (rgV S 2))).toInt).1 i = B.2.2.2.2 (cW c) i) → ((o = 0 ∧ r = (0, 0#64)) ∨ ∃ i : Nat, (i < 64 ∧ o = 300 + i) ∧ r = (300 + i, 0#64) ∧ B.2.2.2.2 (H.2.2.2.2.2.2.2.2.2.2.2.1 (cW c) (vw (rgV S 1)) (jV (vn (rgV S 2))).toInt).1 i = (jV (vn (rgV S 2))).toInt) → resG B E (0, some (n, ((wV (unsA S) 0 (mkV 10 (jV (vn (rgV S 2))).toInt (t + 1))).1, (wV (unsA S) 0 (mkV 10 (jV (vn (rgV S 2))).toInt (t + 1))).2.1, sB S, sH S ++ [t + 1])), none, t + 1) (bhT c (cS c) (H.2.2.2.2.2.2.2.2.2.2.2.1 (cW c) (vw (rgV S 1)) (jV (vn (rgV S 2))).toInt).1 r n) := fun o r hheld hkeep hr => by
      have gt := gS_th g ho (show t < t + 1 by omega) o
      have gn : gS B E (fun i => if i = t + 1 then o else th i) tp (sF S, (fun k => if k < 26 * sF S then id (sV S k) else sV S k), sB S, sH S ++ [t + 1]) (cP c, cN c, cR c, cS c, cB c, (H.2.2.2.2.2.2.2.2.2.2.2.1 (cW c) (vw (rgV S 1)) (jV (vn (rgV S 2))).toInt).1) := by
        refine all_g (c' := (cP c, cN c, cR c, cS c, cB c, (H.2.2.2.2.2.2.2.2.2.2.2.1 (cW c) (vw (rgV S 1)) (jV (vn (rgV S 2))).toInt).1)) (hd' := sH S ++ [t + 1]) (th' := fun i => if i = t + 1 then o else th i) (tp' := tp) gt rfl rfl rfl rfl (fun j hj => ⟨⟨fun _ => rfl, fun a b => absurd b a⟩, fun s gv => ?_⟩) (fun i hi => (hheld i hi).trans ⟨?_, ?_⟩) (fun x y hx hy => ?_) gt.2.2.2.2.2.2.2
        · show gV E (B.1 (H.2.2.2.2.2.2.2.2.2.2.2.1 (cW c) (vw (rgV S 1)) (jV (vn (rgV S 2))).toInt).1) (B.2.2.2.2 (H.2.2.2.2.2.2.2.2.2.2.2.1 (cW c) (vw (rgV S 1)) (jV (vn (rgV S 2))).toInt).1) (sH S ++ [t + 1]) (fun i => if i = t + 1 then o else th i) tp (sV S j) s
          rw [hw.1]
          obtain ⟨h1, h2, h3, h4, h5, h6, h7, h8, h9, h10⟩ := gv
          have held : ∀ i, i < 64 → ∀ x, x ∈ sH S → (if x = t + 1 then o else th x) = 300 + i → B.2.2.2.1 (cW c) i = true := fun i hi x hx e => (g.2.2.2.2.1 i hi).mpr ⟨x, hx, by rwa [if_neg (show ¬ x = t + 1 from fun q => nin (q ▸ hx))] at e⟩
          refine ⟨h1, h2, h3, h4, h5, h6, h7, h8, fun k => ?_, fun k => ?_⟩
          · obtain ⟨i, p, ⟨i1, i2, i3⟩, q1, q2, q3⟩ := h9 k
            exact ⟨i, p, ⟨i1, i2, List.mem_append_left _ i3⟩, q1, q2, ((hkeep i i1 (held i i1 _ i3 i2)).2).trans q3⟩
          · rcases h10 k with e | ⟨i, ⟨i1, i2, i3⟩, q1, q3⟩
            · exact Or.inl e
            · exact Or.inr ⟨i, ⟨i1, i2, List.mem_append_left _ i3⟩, q1, ((hkeep i i1 (held i i1 _ i3 i2)).2).trans q3⟩
        · rintro (e | e)
          · exact ⟨t + 1, List.mem_append_right _ (List.mem_singleton.mpr rfl), by show (if t + 1 = t + 1 then o else th (t + 1)) = _; rw [if_pos rfl]; exact e⟩
          · obtain ⟨x, x1, x2⟩ := (g.2.2.2.2.1 i hi).mp e
            exact ⟨x, List.mem_append_left _ x1, by show (if x = t + 1 then o else th x) = _; rw [if_neg (show ¬ x = t + 1 from fun q => nin (q ▸ x1))]; exact x2⟩
        · rintro ⟨x, x1, x2⟩
          have x2 : (if x = t + 1 then o else th x) = 300 + i := x2
          rcases List.mem_append.mp x1 with x1 | x1
          · rw [if_neg (show ¬ x = t + 1 from fun q => nin (q ▸ x1))] at x2
            exact Or.inr ((g.2.2.2.2.1 i hi).mpr ⟨x, x1, x2⟩)
          · rw [List.mem_singleton.mp x1, if_pos rfl] at x2
            exact Or.inl x2
        · intro e1 e0
          have e1 : (if x = t + 1 then o else th x) = (if y = t + 1 then o else th y) := e1
          have e0 : ¬ (if x = t + 1 then o else th x) = 0 := e0
          -- a held record's number isn't the new one's
          have ne : ∀ x, x ∈ sH S → ¬ th x = 0 → ¬ th x = o := fun x hx x0 q => by
            rcases hr with ⟨r1, _⟩ | ⟨i, ⟨r1, r2⟩, _⟩
            · omega
            · have := (g.2.2.2.2.1 i r1).mpr ⟨x, hx, by omega⟩
              exact (hkeep i r1 this).1 r2
          rcases List.mem_append.mp hx with hx | hx
          · rw [if_neg (show ¬ x = t + 1 from fun q => nin (q ▸ hx))] at e1 e0
            rcases List.mem_append.mp hy with hy | hy
            · rw [if_neg (show ¬ y = t + 1 from fun q => nin (q ▸ hy))] at e1
              exact g.2.2.2.2.2.1 x y hx hy e1 e0
            · rw [List.mem_singleton.mp hy, if_pos rfl] at e1
              exact absurd e1 (ne x hx e0)
          · rw [List.mem_singleton.mp hx, if_pos rfl] at e1 e0
            rcases List.mem_append.mp hy with hy | hy
            · rw [if_neg (show ¬ y = t + 1 from fun q => nin (q ▸ hy))] at e1
              exact absurd e1.symm (ne y hy (by omega))
            · rw [List.mem_singleton.mp hx, List.mem_singleton.mp hy]
      have fun_id : (fun k => if k < 26 * sF S then id (sV S k) else sV S k) = sV S := by
        funext k
        split <;> rfl
      rw [fun_id] at gn
      have key := bh_g (S' := (sF S, sV S, sB S, sH S ++ [t + 1])) (S := S) (c := c) (n := n) (vl := mkV 10 (jV (vn (rgV S 2))).toInt (t + 1)) (r := r) rfl hN ho.1.1 gn (mk_10 rfl ?_)
      · exact ⟨0, _, rfl, Or.inl ⟨rfl, Or.inl ⟨n, _, rfl, rfl, _, _, key⟩⟩⟩
      · show ((if t + 1 = t + 1 then o else th (t + 1)) = 0 ∧ r = (0, 0#64)) ∨ ∃ i : Nat, (i < 64 ∧ (if t + 1 = t + 1 then o else th (t + 1)) = 300 + i ∧ (t + 1) ∈ sH S ++ [t + 1]) ∧ r = (300 + i, 0#64) ∧ _
        rw [if_pos rfl]
        rcases hr with e | ⟨i, ⟨r1, r2⟩, r3, r4⟩
        · exact Or.inl e
        · exact Or.inr ⟨i, ⟨r1, r2, List.mem_append_right _ (List.mem_singleton.mpr rfl)⟩, r3, r4⟩
    cases q : (H.2.2.2.2.2.2.2.2.2.2.2.1 (cW c) (vw (rgV S 1)) (jV (vn (rgV S 2))).toInt).2 with
    | none =>
      obtain ⟨q1, q2⟩ := hw.2.1 q
      refine fin 0 _ (fun i hi => ?_) (fun i hi _ => ⟨by omega, by rw [q2]⟩) (Or.inl ⟨rfl, rfl⟩)
      rw [q1]
      exact ⟨Or.inr, fun e => by rcases e with e | e; exfalso; omega; exact e⟩
    | some i =>
      obtain ⟨q1, q2, q3, q4, q5⟩ := hw.2.2 i q
      refine fin (300 + i) _ (fun j hj => (q3 j hj).trans ⟨fun e => by rcases e with e | e; exact Or.inl (by omega); exact Or.inr e, fun e => by rcases e with e | e; exact Or.inl (by omega); exact Or.inr e⟩) (fun j hj hheld => ?_) (Or.inr ⟨i, ⟨q1, rfl⟩, rfl, q4⟩)
      have ne : ¬ j = i := fun e => by rw [e, q2] at hheld; cases hheld
      exact ⟨by omega, q5 j ne⟩
  · have o1 := uns_ok ho
    obtain ⟨u1, u2, u3, u4, u5, u6, u7⟩ := o1
    have k1 : vk (mkV 10 (jV (vn (rgV S 2))).toInt (t + 1)) = 10 := rfl
    have okv : okV E (sF S - 1) (t + 1) (mkV 10 (jV (vn (rgV S 2))).toInt (t + 1)) := by
      refine ⟨by omega, ?_, ?_, ?_, ?_, ?_, fun _ => by show (1 : Int) ≤ t + 1 ∧ t + 1 ≤ t + 1; omega, ?_, fun _ => a2.2.2, ?_⟩
      all_goals (intro e; exfalso; omega)
    refine ⟨u1, fun k hk => ?_, fun k k' hk hk' p q => ?_, fun x hx => ?_, ?_, ?_, by show 0 ≤ t + 1; omega⟩
    · show okV E (k / 26) (t + 1) (if k = 26 * (sF S - 1) + 0 then mkV 10 (jV (vn (rgV S 2))).toInt (t + 1) else sV (unsA S) k)
      have hk : k < 26 * sF S := hk
      split
      · rename_i e
        rw [e, show (26 * (sF S - 1) + 0) / 26 = sF S - 1 by omega]
        exact okv
      · exact okV_mono (by omega) (u2 k hk)
    · have hk : k < 26 * sF S := hk
      have hk' : k' < 26 * sF S := hk'
      have p : vk (if k = 26 * (sF S - 1) + 0 then mkV 10 (jV (vn (rgV S 2))).toInt (t + 1) else sV (unsA S) k) = 9 := p
      have q : vk (if k' = 26 * (sF S - 1) + 0 then mkV 10 (jV (vn (rgV S 2))).toInt (t + 1) else sV (unsA S) k') = 10 := q
      show ¬ vt (if k = 26 * (sF S - 1) + 0 then mkV 10 (jV (vn (rgV S 2))).toInt (t + 1) else sV (unsA S) k) = vt (if k' = 26 * (sF S - 1) + 0 then mkV 10 (jV (vn (rgV S 2))).toInt (t + 1) else sV (unsA S) k')
      split at p
      · exfalso; omega
      · rename_i c1
        rw [if_neg c1]
        have tk := (u2 k hk).2.2.2.2.2.2.1 (Or.inr (Or.inl p))
        split at q
        · rename_i c2
          rw [if_pos c2]
          show ¬ vt (sV (unsA S) k) = t + 1
          omega
        · rename_i c2
          rw [if_neg c2]
          exact u3 k k' hk hk' p q
    · rcases List.mem_append.mp hx with hx | hx
      · have := (hd_ok ho).1 x hx
        show 1 ≤ x ∧ x ≤ t + 1
        omega
      · rw [List.mem_singleton.mp hx]
        show 1 ≤ t + 1 ∧ t + 1 ≤ t + 1
        omega
    · refine List.nodup_append.mpr ⟨(hd_ok ho).2.1, List.nodup_cons.mpr ⟨by simp, List.nodup_nil⟩, fun x hx y hy e => ?_⟩
      rw [List.mem_singleton.mp hy] at e
      exact nin (e ▸ hx)
    · show (sH S ++ [t + 1]).length ≤ 64
      rw [List.length_append]
      show (sH S).length + 1 ≤ 64
      omega
/-- what no known value leads to may be taken away -/
theorem kil_g {i : Nat} (g : gS B E th tp S c) (ho : okS E t S) (no : ∀ x ∈ sH S, ¬ th x = 300 + i) : gS B E th tp S (kilT c (300 + i)) := by
  obtain ⟨h1, h2, h3, h4, h5, h6, h7, h8⟩ := g
  have F4 := ho.1
  have key : ∀ k, k < 26 * sF S → ∀ s, gV E (B.1 (cW c)) (B.2.2.2.2 (cW c)) (sH S) th tp (sV S k) s → ¬ vk (sV S k) = 0 → ¬ s.1 = 300 + i := fun k hk s gv k0 e => by
    have ov := ho.2.1 k hk
    have k10 := ov.1
    have g4 : k / 26 < 4 := by omega
    have cs : vk (sV S k) = 1 ∨ vk (sV S k) = 2 ∨ vk (sV S k) = 3 ∨ vk (sV S k) = 4 ∨ vk (sV S k) = 5 ∨ vk (sV S k) = 6 ∨ vk (sV S k) = 7 ∨ vk (sV S k) = 8 ∨ vk (sV S k) = 9 ∨ vk (sV S k) = 10 := by omega
    rcases cs with q | q | q | q | q | q | q | q | q | q
    · have := (gV_1 gv q).1
      omega
    · rw [gV_2 gv q] at e
      have e : 1 = 300 + i := e
      omega
    · rw [gV_3 gv q] at e
      have e : (2 + vw (sV S k)).toNat = 300 + i := e
      have := ov.2.2.1 q
      omega
    · rw [gV_4 gv q] at e
      have e : 8 + (vw (sV S k)).toNat = 300 + i := e
      have := ov.2.2.2.1 q
      omega
    · obtain ⟨j, p, j1, e1, _⟩ := gV_5 gv q
      rw [e1] at e
      have e : 16 + 32 * (vw (sV S k)).toNat + j = 300 + i := e
      have := (ov.2.2.2.2.1 (Or.inl q)).1
      omega
    · rcases gV_6 gv q with ⟨_, e1⟩ | ⟨j, j1, _, e1⟩
      · rw [e1] at e
        have e : 0 = 300 + i := e
        omega
      · rw [e1] at e
        have e : 16 + 32 * (vw (sV S k)).toNat + j = 300 + i := e
        have := (ov.2.2.2.2.1 (Or.inr q)).1
        omega
    · rw [(gV_7 gv q).1] at e
      have e : 280 = 300 + i := e
      omega
    · rw [gV_8 gv q] at e
      have e : 280 = 300 + i := e
      omega
    · obtain ⟨j, p, ⟨j1, j2, j3⟩, e1, _⟩ := gV_9 gv q
      rw [e1] at e
      have e : 300 + j = 300 + i := e
      exact no _ j3 (j2.trans e)
    · rcases gV_10 gv q with ⟨_, e1⟩ | ⟨j, ⟨j1, j2, j3⟩, e1, _⟩
      · rw [e1] at e
        have e : 0 = 300 + i := e
        omega
      · rw [e1] at e
        have e : 300 + j = 300 + i := e
        exact no _ j3 (j2.trans e)
  refine ⟨h1, fun f r hf hr => ?_, fun f q hf hq => ?_, h4, h5, h6, fun f b hb => ?_, h8⟩
  · have gv := h2 f r hf hr
    by_cases k0 : vk (sV S (26 * f + r)) = 0
    · exact mk_0 k0
    · have n := key (26 * f + r) (by omega) _ gv k0
      show gV E _ _ _ th tp _ (if (cR c f r).1 = 300 + i then nilR else cR c f r)
      rw [if_neg n]
      exact gv
  · have old := h3 f q hf hq
    refine ⟨fun k0 j hj hb => ?_, fun k0 => ?_⟩
    · have m1 : (cS c f (8 * q + j)).1 = 1 := old.1 k0 j hj hb
      show (if 2 ≤ (cS c f (8 * q + j)).1 ∧ (cS c f (8 * q + j)).2.1 = 300 + i then ((0, 0, 0#64) : MB) else cS c f (8 * q + j)).1 = 1
      rw [if_neg (fun z => by omega)]
      exact m1
    · obtain ⟨s, gv, hs⟩ := old.2 k0
      have n := key (26 * f + 10 + q) (by omega) _ gv k0
      have same : ∀ j, j < 8 → kilB (300 + i) (cS c f (8 * q + j)) = cS c f (8 * q + j) := fun j hj => by
        unfold kilB
        rcases hs with ⟨_, m1, _⟩ | ⟨_, m2⟩
        · have m1 : (cS c f (8 * q + j)).1 = 1 := m1 j hj
          rw [if_neg (fun z => by omega)]
        · have m2 : cS c f (8 * q + j) = (2 + j, s.1, s.2) := m2 j hj
          rw [m2]
          exact if_neg (fun z => n z.2)
      refine ⟨s, gv, ?_⟩
      rcases hs with ⟨a1, a2, a3⟩ | ⟨a1, a2⟩
      · refine Or.inl ⟨a1, fun j hj => ?_, ?_⟩
        · show (kilB (300 + i) (cS c f (8 * q + j))).1 = 1
          rw [same j hj]
          exact a2 j hj
        · rw [← a3]
          refine congrArg leN (List.map_congr_left fun j hj => ?_)
          show (kilB (300 + i) (cS c f (8 * q + j))).2.2 = (cS c f (8 * q + j)).2.2
          rw [same j (List.mem_range.mp hj)]
      · refine Or.inr ⟨a1, fun j hj => ?_⟩
        show kilB (300 + i) (cS c f (8 * q + j)) = _
        rw [same j hj]
        exact a2 j hj
  · have hb : (kilB (300 + i) (cS c f b)).1 = 1 := hb
    show (kilB (300 + i) (cS c f b)).2.2.toNat < 256
    unfold kilB at hb ⊢
    split at hb
    · cases hb
    · rename_i z
      rw [if_neg z]
      exact h7 f b hb
/-- 132, 133 -/
theorem hlp_132 {H : WH W} (hH : okH B H) (g : gS B E th tp S c) (ho : okS E t S) {h n : Int} (hh : h = 132 ∨ h = 133) (hf : hlpF E S h = 0) : resG B E (hlpJ E S h n t) (hpT B H E c h n) ∧ resO E t (hlpJ E S h n t) := by
  have hN : cN c = sF S := g.1
  have g1 := rV_g g ho (r := 1) (by omega)
  rw [hlpJ_num hf (by omega) (by omega), if_neg (by omega)]
  unfold hlpF at hf
  rw [if_neg (by omega), if_neg (by omega), if_neg (by omega), if_neg (by omega), if_neg (by omega), if_neg (by omega), if_neg (by omega), if_neg (by omega), if_pos hh] at hf
  obtain ⟨a1, a2⟩ := fst_0 hf
  have a1 : vk (rgV S 1) = 9 ∧ vo (rgV S 1) = 0 ∧ isC (vn (rgV S 1)) ∧ jV (vn (rgV S 1)) = 0#64 := by simpa using (wntA_0 a1).2.2
  obtain ⟨i, p, ⟨i1, i2, i3⟩, e1, e2, e3⟩ := gV_9 g1 a1.1
  have ep : p = 0#64 := (gN_const e2.2 a1.2.2.1).trans a1.2.2.2
  rw [a1.2.1, ep] at e1
  have e1 : rdR c 1 = (300 + i, 0#64) := e1
  unfold hpT
  rw [if_neg (by omega), if_neg (by omega), if_neg (by omega), if_neg (by omega), if_neg (by omega), if_neg (by omega), if_neg (by omega), if_neg (by omega), if_pos hh, e1]
  have held : B.2.2.2.1 (cW c) i = true := (g.2.2.2.2.1 i i1).mpr ⟨_, i3, i2⟩
  have ei : 300 + i - 300 = i := by omega
  simp only [ei]
  rw [if_neg (fun q => by rcases q with q | q; exact q ⟨⟨by omega, by omega⟩, trivial⟩; exact q held)]
  have hw := hH.2.2.2.2.2.2.2.2.2.2.2 (cW c) i (decide (h = 132))
  have es : hlpS S h = allV (relH S (vt (rgV S 1))) (recV (vt (rgV S 1))) := by
    unfold hlpS
    rw [if_neg (by omega), if_neg (by omega), if_pos hh]
  obtain ⟨k9, l1, l2, l3⟩ := rV_at ho (r := 1) (by omega) (Or.inl a1.1)
  generalize vt (rgV S 1) = T at *
  have no10 : ∀ j, j < 26 * sF S → vk (sV S j) = 10 → ¬ vt (sV S j) = T := fun j hj k10 e => ho.2.2.1 k9 j l1 hj (l2.trans a1.1) k10 (l3.trans e.symm)
  have pk : ∀ v, recV T v = v ∨ recV T v = unsV := fun v => by
    unfold recV
    split
    · exact Or.inr rfl
    · exact Or.inl rfl
  have gp : gS B E th tp (allV (relH S T) (recV T)) (cP c, cN c, cR c, cS c, cB c, (H.2.2.2.2.2.2.2.2.2.2.2.2 (cW c) i (decide (h = 132)))) := by
    show gS B E th tp (sF S, (fun k => if k < 26 * sF S then recV T (sV S k) else sV S k), sB S, (sH S).filter fun x => decide (¬ x = T)) _
    refine all_g (c' := (cP c, cN c, cR c, cS c, cB c, (H.2.2.2.2.2.2.2.2.2.2.2.2 (cW c) i (decide (h = 132))))) (hd' := (sH S).filter fun x => decide (¬ x = T)) (th' := th) (tp' := tp) g rfl rfl rfl rfl (fun j hj => ?_) (fun k hk => ?_) (fun a b ha hb => g.2.2.2.2.2.1 a b (List.mem_filter.mp ha).1 (List.mem_filter.mp hb).1) g.2.2.2.2.2.2.2
    · show ((vk (sV S j) = 0 → recV T (sV S j) = sV S j) ∧ (¬ vk (sV S j) = 0 → vk (recV T (sV S j)) = 0 → vr (recV T (sV S j)) = 0)) ∧ ∀ s, gV E (B.1 (cW c)) (B.2.2.2.2 (cW c)) (sH S) th tp (sV S j) s → gV E (B.1 (H.2.2.2.2.2.2.2.2.2.2.2.2 (cW c) i (decide (h = 132)))) (B.2.2.2.2 (H.2.2.2.2.2.2.2.2.2.2.2.2 (cW c) i (decide (h = 132)))) ((sH S).filter fun x => decide (¬ x = T)) th tp (recV T (sV S j)) s
      rw [hw.1, hw.2.1]
      unfold recV
      by_cases e : vk (sV S j) = 9 ∧ vt (sV S j) = T
      · simp only [if_pos e]
        exact ⟨⟨fun k0 => by exfalso; omega, fun _ _ => rfl⟩, fun s _ => mk_0 rfl⟩
      · simp only [if_neg e]
        refine ⟨⟨fun _ => trivial, fun a b => absurd b a⟩, fun s gv => gV_hd (fun q1 q2 => List.mem_filter.mpr ⟨q2, ?_⟩) gv⟩
        have : ¬ vt (sV S j) = T := fun q3 => by
          rcases q1 with q1 | q1
          · exact e ⟨q1, q3⟩
          · exact no10 j hj q1.1 q3
        simpa using this
    · refine (hw.2.2 k hk).trans ⟨fun ⟨q1, q2⟩ => ?_, fun ⟨x, x1, x2⟩ => ?_⟩
      · obtain ⟨x, x1, x2⟩ := (g.2.2.2.2.1 k hk).mp q2
        refine ⟨x, List.mem_filter.mpr ⟨x1, ?_⟩, x2⟩
        have : ¬ x = T := fun e => by rw [e, i2] at x2; omega
        simpa using this
      · obtain ⟨x1, x3⟩ := List.mem_filter.mp x1
        have x3 : ¬ x = T := by simpa using x3
        refine ⟨fun e => x3 (g.2.2.2.2.2.1 x T x1 i3 (by rw [x2, i2, e]) (by omega)), (g.2.2.2.2.1 k hk).mpr ⟨x, x1, x2⟩⟩
  have okp : okS E t (allV (relH S T) (recV T)) := by
    have u0 : vk unsV = 0 := rfl
    obtain ⟨h1, h2, h3⟩ := hd_ok ho
    show okS E t (sF S, (fun k => if k < 26 * sF S then recV T (sV S k) else sV S k), sB S, (sH S).filter fun x => decide (¬ x = T))
    refine all_ok (hd' := (sH S).filter fun x => decide (¬ x = T)) ho (Int.le_refl _) (fun j hj => ?_) (fun j j' hj hj' p q => ?_) ⟨fun x hx => h1 x (List.mem_filter.mp hx).1, h2.filter _, Nat.le_trans (List.length_filter_le _ _) h3⟩
    · rcases pk (sV S j) with e | e <;> rw [e]
      · exact ho.2.1 j hj
      · exact okV_uns
    · rcases pk (sV S j) with e | e
      · rcases pk (sV S j') with e' | e'
        · rw [e] at p ⊢
          rw [e'] at q ⊢
          exact ho.2.2.1 j j' hj hj' p q
        · rw [e'] at q; exfalso; omega
      · rw [e] at p; exfalso; omega
  rw [es]
  have gk := kil_g (i := i) gp okp (fun x hx e => by
    obtain ⟨x1, x3⟩ := List.mem_filter.mp hx
    have x3 : ¬ x = T := by simpa using x3
    exact x3 (g.2.2.2.2.2.1 x T x1 i3 (by rw [e, i2]) (by omega)))
  exact bh_num (c := kilT c (300 + i)) rfl hN okp gk (inN_any _)
theorem hlp_j {H : WH W} (hB : okB B) (hH : okH B H) (hE : okE E) (g : gS B E th tp S c) (ho : okS E t S) {h n : Int} (hf : (hlpJ E S h n t).1 = 0) : resG B E (hlpJ E S h n t) (hpT B H E c h n) ∧ resO E t (hlpJ E S h n t) := by
  have hf : hlpF E S h = 0 := by
    refine Decidable.byContradiction fun e => ?_
    unfold hlpJ at hf
    rw [if_pos e] at hf
    exact e hf
  have hh : (h = 1 ∨ h = 2 ∨ h = 3) ∨ (h = 5 ∨ h = 6 ∨ h = 7 ∨ h = 12) ∨ h = 26 ∨ h = 44 ∨ h = 131 ∨ (h = 132 ∨ h = 133) := by
    refine Decidable.byContradiction fun e => ?_
    unfold hlpF at hf
    rw [if_neg (by omega), if_neg (by omega), if_neg (by omega), if_neg (by omega), if_neg (by omega), if_neg (by omega), if_neg (by omega), if_neg (by omega), if_neg (by omega)] at hf
    omega
  rcases hh with hh | hh | rfl | rfl | rfl | hh
  · exact hlp_key hB hH hE g ho hh hf
  · exact hlp_b hB hH g ho hh hf
  · exact hlp_26 hB hH g ho hf
  · exact hlp_44 hH g ho hf
  · exact hlp_131 hH g ho hf
  · exact hlp_132 hH g ho hh hf
theorem pig : ∀ (n : Nat) (L : List Int) (f : Int → Nat), (∀ i, i < n → ∃ h ∈ L, f h = i) → n ≤ L.length := by
  intro n
  induction n with
  | zero => intro L f _; exact Nat.zero_le _
  | succ n ih =>
    intro L f q
    obtain ⟨h, hm, e⟩ := q n (Nat.lt_succ_self n)
    have z := ih (L.erase h) f fun i hi => by
      obtain ⟨h', hm', e'⟩ := q i (by omega)
      exact ⟨h', (List.mem_erase_of_ne (fun y => by rw [y, e] at e'; omega)).mpr hm', e'⟩
    have l := List.length_erase_of_mem hm
    have p := List.length_pos_of_mem hm
    omega
theorem hlp_k (g : gS B E th tp S c) (ho : okS E t S) {h : Int} (hf : hlpF E S h = 0) : hpK B E c h := by
  have g1 := rV_g g ho (r := 1) (by omega)
  have o1 := rV_ok ho (r := 1) (by omega)
  have g2 := rV_g g ho (r := 2) (by omega)
  have o2 := rV_ok ho (r := 2) (by omega)
  refine ⟨fun hh => ?_, fun hh => ?_, fun hh => ?_⟩
  · have f1 : wntM E (rgV S 1) 0 1 = 0 := by
      unfold hlpF at hf
      rcases hh with e | e | e
      · rw [if_pos (Or.inl e)] at hf
        exact (fst_0 hf).1
      · rw [if_neg (by omega), if_pos e] at hf
        exact (fst_0 (fst_0 (fst_0 hf).1).1).1
      · rw [if_pos (Or.inr e)] at hf
        exact (fst_0 hf).1
    obtain ⟨_, m2, _, m4, _⟩ := map_g g1 o1 f1
    rw [m2]
    exact ⟨m4.1, m4.2.2⟩
  · have f1 : wntM E (rgV S 2) 2 2 = 0 := by
      unfold hlpF at hf
      rw [if_neg (by omega), if_neg (by omega), if_neg (by omega), if_neg (by omega), if_pos hh] at hf
      exact (fst_0 (fst_0 (fst_0 hf).1).1).2
    obtain ⟨_, m2, _, m4, _⟩ := map_g g2 o2 f1
    rw [m2]
    omega
  · unfold hlpF at hf
    rw [if_neg (by omega), if_neg (by omega), if_neg (by omega), if_neg (by omega), if_neg (by omega), if_neg (by omega), if_neg (by omega), if_pos hh] at hf
    obtain ⟨a, am⟩ := fst_0 hf
    obtain ⟨a, a3⟩ := fst_0 a
    obtain ⟨a1, a2⟩ := fst_0 a
    obtain ⟨_, m2, _, m4, _⟩ := map_g g1 o1 a1
    have len : (sH S).length < 64 := by
      have := (hd_ok ho).2.2
      split at am
      · exfalso; omega
      · omega
    refine ⟨by rw [m2]; omega, Decidable.byContradiction fun z => ?_⟩
    have all : ∀ i, i < 64 → ∃ h ∈ sH S, th h - 300 = i := fun i hi => by
      have hb : B.2.2.2.1 (cW c) i = true := Decidable.byContradiction fun y => z ⟨i, hi, y⟩
      obtain ⟨h, hm, e⟩ := (g.2.2.2.2.1 i hi).mp hb
      exact ⟨h, hm, by omega⟩
    have := pig 64 (sH S) (fun h => th h - 300) all
    omega
theorem hlp_jG {H : WH W} (hB : okB B) (hH : okH B H) (hE : okE E) (g : gS B E th tp S c) (ho : okS E t S) {h n : Int} (hf : (hlpJ E S h n t).1 = 0) : resG B E (hlpJ E S h n t) (hpG B H E c h n) ∧ resO E t (hlpJ E S h n t) := by
  have h0 : hlpF E S h = 0 := by
    refine Decidable.byContradiction fun e => ?_
    unfold hlpJ at hf
    rw [if_pos e] at hf
    exact e hf
  rw [hpG_e (hlp_k g ho h0)]
  exact hlp_j hB hH hE g ho hf
end HQ
