/-! ===== the reference's runs: bytes of the machine of places ===== -/
section RBYT
variable {σ τ ρ : MS} {c c' : TC WR} {v : SV} {w x : B64} {r f b k n o s i : Nat} {l : List B64}
theorem cpo_s (h : 2 ≤ o ∧ o ≤ 5) : cellR o = 147 ∧ plcR o b = 128 * (o - 2) + b := ⟨if_pos (by omega), if_pos (by omega)⟩
theorem cpo_c (h : 16 ≤ o ∧ o ≤ 271) : cellR o = 100 ∧ plcR o b = 64 * (o - 16) + b := by
  unfold cellR plcR
  have n : ¬ o < 6 := by omega
  rw [if_neg n, if_neg n, if_pos h.2, if_pos h.2]
  exact ⟨rfl, rfl⟩
theorem cpo_p (h : o = 280) : cellR o = 144 ∧ plcR o b = b := by
  unfold cellR plcR
  have n : ¬ o < 6 := by omega
  have n2 : ¬ o ≤ 271 := by omega
  rw [if_neg n, if_neg n, if_neg n2, if_neg n2, if_pos h, if_pos h]
  exact ⟨rfl, rfl⟩
theorem cpo_r (h : 300 ≤ o) : cellR o = 149 ∧ plcR o b = 64 * (o - 300) + b := by
  unfold cellR plcR
  have n : ¬ o < 6 := by omega
  have n2 : ¬ o ≤ 271 := by omega
  have n3 : ¬ o = 280 := by omega
  rw [if_neg n, if_neg n, if_neg n2, if_neg n2, if_neg n3, if_neg n3]
  exact ⟨rfl, rfl⟩
theorem rdB_R (h : RelR σ c) (e : rdB RB c o b = some x) : obR o b ∧ x = byW (byR σ o b) := by
  obtain ⟨_, _, d, _, ⟨g1, _, _⟩⟩ := h
  unfold rdB at e
  unfold byR
  by_cases q1 : 2 ≤ o ∧ o ≤ 5
  · rw [if_pos q1] at e
    by_cases q2 : b < 128 ∧ (cS c (o - 2) b).1 = 1
    · rw [if_pos q2] at e
      have e := Option.some.inj e
      have m := (d (o - 2) b (by omega) q2.1).1 q2.2
      rw [(cpo_s (b := b) q1).1, (cpo_s (b := b) q1).2]
      exact ⟨Or.inl ⟨q1, q2.1⟩, e.symm.trans m.symm⟩
    · rw [if_neg q2] at e
      cases e
  · rw [if_neg q1] at e
    by_cases q3 : 16 ≤ o ∧ o ≤ 271
    · rw [if_pos q3] at e
      by_cases q2 : b < 64
      · rw [if_pos q2] at e
        have e := Option.some.inj e
        rw [(cpo_c (b := b) q3).1, (cpo_c (b := b) q3).2]
        refine ⟨Or.inr (Or.inl ⟨q3, q2⟩), ?_⟩
        have e : byW (if o ≤ 271 then wg (cW c) 100 (64 * (o - 16) + b) else if o = 280 then wg (cW c) 144 b else wg (cW c) 149 (64 * (o - 300) + b)) = x := e
        rw [if_pos q3.2, g1 _ _ (by omega)] at e
        exact e.symm
      · rw [if_neg q2] at e
        cases e
    · rw [if_neg q3] at e
      by_cases q4 : o = 280
      · rw [if_pos q4] at e
        by_cases q2 : b < RB.1 (cW c)
        · rw [if_pos q2] at e
          have e := Option.some.inj e
          have l6 : RB.1 (cW c) ≤ 256 := RB_ok.2.2 _
          rw [(cpo_p (b := b) q4).1, (cpo_p (b := b) q4).2]
          refine ⟨Or.inr (Or.inr (Or.inl ⟨q4, by omega⟩)), ?_⟩
          have e : byW (if o ≤ 271 then wg (cW c) 100 (64 * (o - 16) + b) else if o = 280 then wg (cW c) 144 b else wg (cW c) 149 (64 * (o - 300) + b)) = x := e
          rw [if_neg (by omega), if_pos q4, g1 _ _ (by omega)] at e
          exact e.symm
        · rw [if_neg q2] at e
          cases e
      · rw [if_neg q4] at e
        by_cases q5 : 300 ≤ o ∧ o ≤ 363
        · rw [if_pos q5] at e
          by_cases q2 : b < 64 ∧ RB.2.2.2.1 (cW c) (o - 300) = true
          · rw [if_pos q2] at e
            have e := Option.some.inj e
            rw [(cpo_r (b := b) q5.1).1, (cpo_r (b := b) q5.1).2]
            refine ⟨Or.inr (Or.inr (Or.inr ⟨q5, q2.1⟩)), ?_⟩
            have e : byW (if o ≤ 271 then wg (cW c) 100 (64 * (o - 16) + b) else if o = 280 then wg (cW c) 144 b else wg (cW c) 149 (64 * (o - 300) + b)) = x := e
            rw [if_neg (by omega), if_neg q4, g1 _ _ (by omega)] at e
            exact e.symm
          · rw [if_neg q2] at e
            cases e
        · rw [if_neg q5] at e
          cases e
theorem lsR_c : lsR σ o b (n + 1) = byW (byR σ o b) :: lsR σ o (b + 1) n := by
  unfold lsR
  rw [List.range'_succ]
  rfl
theorem lsR_n : (lsR σ o b n).length = n := by
  unfold lsR
  rw [List.length_map, List.length_range']
theorem rdL_R (h : RelR σ c) : ∀ (n b : Nat) (l : List B64), rdL RB c o b n = some l → (∀ i, i < n → obR o (b + i)) ∧ l = lsR σ o b n := by
  intro n
  induction n with
  | zero =>
    intro b l e
    have e := Option.some.inj e
    exact ⟨fun i hi => absurd hi (Nat.not_lt_zero _), e.symm⟩
  | succ n ih =>
    intro b l e
    unfold rdL at e
    cases e1 : rdB RB c o b with
    | none =>
      rw [e1] at e
      cases e
    | some y =>
      cases e2 : rdL RB c o (b + 1) n with
      | none =>
        rw [e1, e2] at e
        cases e
      | some t =>
        rw [e1, e2] at e
        have e := Option.some.inj e
        obtain ⟨a1, a2⟩ := rdB_R h e1
        obtain ⟨b1, b2⟩ := ih (b + 1) t e2
        refine ⟨fun i hi => ?_, ?_⟩
        · cases i with
          | zero => exact a1
          | succ i =>
            have := b1 i (by omega)
            rwa [show b + 1 + i = b + (i + 1) by omega] at this
        · rw [← e, a2, b2, lsR_c]
/-- bytes that are put, byte by byte -/
theorem plcR_s : plcR o (b + 1) = plcR o b + 1 := by
  unfold plcR
  repeat' split
  all_goals omega
theorem wrS_g : ∀ (l : List B64) (b : Nat) (σ : MS), gI (wrS σ o b l) k s = if k = cellR o ∧ plcR o b ≤ s ∧ s < plcR o b + l.length then kpW (l.getD (s - plcR o b) 0#64) else gI σ k s := by
  intro l
  induction l with
  | nil =>
    intro b σ
    rw [if_neg (by
      rintro ⟨_, h1, h2⟩
      have h2 : s < plcR o b + 0 := h2
      omega)]
    rfl
  | cons v t ih =>
    intro b σ
    show gI (wrS (sI σ (cellR o) (plcR o b) (kpW v)) o (b + 1) t) k s = _
    rw [ih, plcR_s]
    by_cases q : k = cellR o ∧ plcR o b + 1 ≤ s ∧ s < plcR o b + 1 + t.length
    · rw [if_pos q, if_pos ⟨q.1, by omega, by show s < plcR o b + (t.length + 1); omega⟩]
      obtain ⟨i, hi⟩ : ∃ i, s - plcR o b = i + 1 := ⟨s - plcR o b - 1, by omega⟩
      rw [hi, show s - (plcR o b + 1) = i by omega]
      rfl
    · rw [if_neg q, gI_sI]
      by_cases e : k = cellR o ∧ s = plcR o b
      · rw [if_pos e, if_pos ⟨e.1, by omega, by show s < plcR o b + (t.length + 1); omega⟩, e.2, Nat.sub_self]
        rfl
      · rw [if_neg e, if_neg]
        rintro ⟨h0, h1, h2⟩
        have h2 : s < plcR o b + (t.length + 1) := h2
        exact e ⟨h0, by
          apply Classical.byContradiction
          intro z
          exact q ⟨h0, by omega, by omega⟩⟩
theorem wrS_2 : ∀ (l : List B64) (b : Nat) (σ : MS), (wrS σ o b l).2 = σ.2 := by
  intro l
  induction l with
  | nil => intro b σ; rfl
  | cons v t ih =>
    intro b σ
    show (wrS (sI σ (cellR o) (plcR o b) (kpW v)) o (b + 1) t).2 = σ.2
    rw [ih]
    rfl
theorem wrS_L : gL (wrS σ o b l) k s = gL σ k s := by
  unfold gL
  rw [wrS_2]
theorem kpW_I {v : B64} (h : v.toNat < 256) : byW (kpW v) = v := by
  unfold byW kpW
  have e := toInt_c v
  rw [if_pos (by omega)] at e
  have e2 : w8 v.toInt % 256 = (v.toNat : Int) := by
    rw [e]
    unfold w8
    rw [Int.bmod_def]
    split <;> omega
  rw [e2]
  apply BitVec.eq_of_toNat_eq
  rw [BitVec.toNat_ofInt]
  omega
theorem cell_R (h : obR o b) : cellR o = 147 ∨ cellR o = 100 ∨ cellR o = 144 ∨ cellR o = 149 := by
  unfold cellR
  repeat' split
  all_goals omega
theorem wrB_R' (h : RelR σ c) (hx : x.toNat < 256) (e : wrB RB c o b x = some c') : obR o b ∧ RelR (sI σ (cellR o) (plcR o b) (kpW x)) c' := by
  obtain ⟨⟨a1, a2⟩, b', d, e', ⟨g1, g2, g3⟩⟩ := h
  have fr : ∀ k s, ¬ k = cellR o → gI (sI σ (cellR o) (plcR o b) (kpW x)) k s = gI σ k s := fun k s q => by rw [gI_sI, if_neg (fun z => q z.1)]
  unfold wrB at e
  by_cases q1 : 2 ≤ o ∧ o ≤ 5
  · rw [if_pos q1] at e
    by_cases q2 : b < 128
    · rw [if_pos q2] at e
      have e := Option.some.inj e
      rw [← e]
      have hc : cellR o = 147 := if_pos (by omega)
      have hp : plcR o b = 128 * (o - 2) + b := if_pos (by omega)
      refine ⟨Or.inl ⟨q1, q2⟩, ⟨a1, (fr _ _ (by omega)).trans a2⟩, b', fun f b2 hf hb => ?_, fun f f1 f2 => (fr _ _ (by omega)).trans (e' f f1 f2), ⟨fun k s p => (g1 k s p).trans (fr k s (by omega)).symm, g2, g3⟩⟩
      show mbR (gI (sI σ (cellR o) (plcR o b) (kpW x)) 147 (128 * f + b2)) (if f = o - 2 ∧ b2 = b then (1, 0, x) else cS c f b2)
      rw [hc, hp, gI_sI]
      by_cases z : f = o - 2 ∧ b2 = b
      · rw [if_pos z, if_pos ⟨rfl, by rw [z.1, z.2]⟩]
        exact ⟨fun _ => kpW_I hx, fun z => absurd z (show ¬ 2 ≤ (1 : Nat) by decide)⟩
      · rw [if_neg z, if_neg (fun y => z ⟨by omega, by omega⟩)]
        exact d f b2 hf hb
    · rw [if_neg q2] at e
      cases e
  · rw [if_neg q1] at e
    -- the rest of the machine
    have key : ∀ (kk ss : Nat), (kk = 100 ∨ kk = 144 ∨ kk = 149) → cellR o = kk → plcR o b = ss → RelR (sI σ (cellR o) (plcR o b) (kpW x)) (cP c, cN c, cR c, cS c, cB c, wset (cW c) kk ss (kpW x)) := fun kk ss hk h1 h2 => by
      refine ⟨⟨a1, (fr _ _ (by omega)).trans a2⟩, b', fun f b2 hf hb => ?_, fun f f1 f2 => (fr _ _ (by omega)).trans (e' f f1 f2), ⟨fun k s p => ?_, g2, g3⟩⟩
      · rw [fr _ _ (by omega)]
        exact d f b2 hf hb
      · show wg (wset (cW c) kk ss (kpW x)) k s = _
        rw [wg_wset, h1, h2, gI_sI]
        by_cases z : k = kk ∧ s = ss
        · rw [if_pos z, if_pos z]
        · rw [if_neg z, if_neg z]
          exact g1 k s p
    by_cases q3 : 16 ≤ o ∧ o ≤ 271
    · rw [if_pos q3] at e
      by_cases q2 : b < 64
      · rw [if_pos q2] at e
        have e := Option.some.inj e
        have e2 : RB.2.2.1 (cW c) o b x = wset (cW c) 100 (64 * (o - 16) + b) (kpW x) := if_pos q3.2
        rw [← e, e2]
        refine ⟨Or.inr (Or.inl ⟨q3, q2⟩), key 100 _ (Or.inl rfl) ?_ ?_⟩
        · unfold cellR
          rw [if_neg (by omega), if_pos q3.2]
        · unfold plcR
          rw [if_neg (by omega), if_pos q3.2]
      · rw [if_neg q2] at e
        cases e
    · rw [if_neg q3] at e
      by_cases q4 : o = 280
      · rw [if_pos q4] at e
        by_cases q2 : b < RB.1 (cW c)
        · rw [if_pos q2] at e
          have e := Option.some.inj e
          have l6 : RB.1 (cW c) ≤ 256 := RB_ok.2.2 _
          have e2 : RB.2.2.1 (cW c) o b x = wset (cW c) 144 b (kpW x) := by
            show (if o ≤ 271 then _ else if o = 280 then _ else _) = _
            rw [if_neg (by omega), if_pos q4]
          rw [← e, e2]
          refine ⟨Or.inr (Or.inr (Or.inl ⟨q4, by omega⟩)), key 144 _ (Or.inr (Or.inl rfl)) ?_ ?_⟩
          · unfold cellR
            rw [if_neg (by omega), if_neg (by omega), if_pos q4]
          · unfold plcR
            rw [if_neg (by omega), if_neg (by omega), if_pos q4]
        · rw [if_neg q2] at e
          cases e
      · rw [if_neg q4] at e
        by_cases q5 : 300 ≤ o ∧ o ≤ 363
        · rw [if_pos q5] at e
          by_cases q2 : b < 64 ∧ RB.2.2.2.1 (cW c) (o - 300) = true
          · rw [if_pos q2] at e
            have e := Option.some.inj e
            have e2 : RB.2.2.1 (cW c) o b x = wset (cW c) 149 (64 * (o - 300) + b) (kpW x) := by
              show (if o ≤ 271 then _ else if o = 280 then _ else _) = _
              rw [if_neg (by omega), if_neg q4]
            rw [← e, e2]
            refine ⟨Or.inr (Or.inr (Or.inr ⟨q5, q2.1⟩)), key 149 _ (Or.inr (Or.inr rfl)) ?_ ?_⟩
            · unfold cellR
              rw [if_neg (by omega), if_neg (by omega), if_neg q4]
            · unfold plcR
              rw [if_neg (by omega), if_neg (by omega), if_neg q4]
          · rw [if_neg q2] at e
            cases e
        · rw [if_neg q5] at e
          cases e
theorem wrL_R' : ∀ (l : List B64) (b : Nat) (σ : MS) (c : TC WR), RelR σ c → (∀ y ∈ l, y.toNat < 256) → wrL RB c o b l = some c' → (∀ i, i < l.length → obR o (b + i)) ∧ RelR (wrS σ o b l) c' := by
  intro l
  induction l with
  | nil =>
    intro b σ c h _ e
    have e := Option.some.inj e
    rw [← e]
    exact ⟨fun i hi => absurd hi (Nat.not_lt_zero _), h⟩
  | cons v t ih =>
    intro b σ c h hl e
    unfold wrL at e
    cases e1 : wrB RB c o b v with
    | none =>
      rw [e1] at e
      cases e
    | some c1 =>
      rw [e1] at e
      obtain ⟨a1, a2⟩ := wrB_R' h (hl v List.mem_cons_self) e1
      obtain ⟨b1, b2⟩ := ih (b + 1) _ c1 a2 (fun y hy => hl y (List.mem_cons_of_mem _ hy)) e
      refine ⟨fun i hi => ?_, b2⟩
      cases i with
      | zero => exact a1
      | succ i =>
        have hi : i + 1 < t.length + 1 := hi
        have := b1 i (by omega)
        rwa [show b + 1 + i = b + (i + 1) by omega] at this
/-- a place comes to a stack -/
theorem wrP_R (h : RelR σ c) (hf : f < 4) (hb : b + 8 ≤ 128) (k6 : ¬ v.1 = 6) (kv : okSV v) : RelR (wrS σ (f + 2) b (bysN (enR v) 8)) (wrP c f b v) := by
  obtain ⟨⟨a1, a2⟩, ⟨b1, b2'⟩, d, e', ⟨g1, g2, g3⟩⟩ := h
  have hc : cellR (f + 2) = 147 := if_pos (by omega)
  have hp : plcR (f + 2) b = 128 * f + b := by
    unfold plcR
    rw [if_pos (by omega)]
    omega
  have fr : ∀ k s, ¬ k = 147 → gI (wrS σ (f + 2) b (bysN (enR v) 8)) k s = gI σ k s := fun k s q => by rw [wrS_g, if_neg (fun z => q (z.1.trans hc))]
  refine ⟨⟨a1, (fr _ _ (by omega)).trans a2⟩, ⟨fun f r hf hr => ⟨(b1 f r hf hr).1, fun z => wrS_L.trans ((b1 f r hf hr).2 z)⟩, fun f hf => wrS_L.trans (b2' f hf)⟩, fun f2 b2 hf2 hb2 => ?_, fun f f1 f2 => (fr _ _ (by omega)).trans (e' f f1 f2), ⟨fun k s p => (g1 k s p).trans (fr k s (by omega)).symm, g2.trans wrS_L.symm, g3.trans wrS_L.symm⟩⟩
  show mbR _ (if f2 = f ∧ b ≤ b2 ∧ b2 < b + 8 then (2 + (b2 - b), v.1, v.2) else cS c f2 b2)
  rw [wrS_g, hc, hp]
  have l8 : (bysN (enR v) 8).length = 8 := rfl
  by_cases z : f2 = f ∧ b ≤ b2 ∧ b2 < b + 8
  · obtain ⟨z1, z2, z3⟩ := z
    rw [if_pos ⟨rfl, by omega, by omega⟩, if_pos ⟨z1, z2, z3⟩]
    obtain ⟨i, hi⟩ : ∃ i, b2 = b + i := ⟨b2 - b, by omega⟩
    have i8 : i < 8 := by omega
    rw [show 128 * f2 + b2 - (128 * f + b) = i by omega, show 2 + (b2 - b) = 2 + i by omega]
    have eg : (bysN (enR v) 8).getD i 0#64 = byJ (enR v) i := by
      unfold bysN
      rw [List.getD_eq_getElem?_getD, List.getElem?_map, List.getElem?_range i8]
      rfl
    rw [eg]
    refine ⟨fun y => by have y : 2 + i = 1 := y; omega, fun _ _ => ⟨?_, kv, k6⟩⟩
    show byW (kpW (byJ (enR v) i)) = byJ (enR v) (2 + i - 2)
    rw [show 2 + i - 2 = i by omega]
    exact kpW_I ((bys_lt (enR v) 8).2 _ (List.mem_map.mpr ⟨i, List.mem_range.mpr i8, rfl⟩))
  · rw [if_neg z, if_neg (by
      rintro ⟨_, y1, y2⟩
      rw [l8] at y2
      exact z ⟨by omega, by omega, by omega⟩)]
    exact d f2 b2 hf2 hb2
end RBYT
