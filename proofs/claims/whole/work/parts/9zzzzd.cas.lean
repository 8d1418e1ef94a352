/-! ===== the class's reader: a statement comes to the others ===== -/
section CAS
variable {t : Nat → Int} {T : Nat → TK} {n i j k m l M : Nat} {σ τ ρ υ : MS} {c d e o w x y z a r op f im : Int} {v W Y V : B64} {s : RD}
theorem T153 {q : SR × Nat} (hr : cRD m σ s) (i1 : s.2.2.1.1 ≤ 200 ∧ s.2.1.1 ≤ s.2.2.1.1) (h14a : ¬ q.1.2.1.1 = 0 → gL σ 18 14 = q.1.2.1.2.1) (h14b : q.1.2.1.1 = 0 → gL σ 18 14 = wdR q.1.1.1 q.1.1.2.1 q.1.1.2.2.1 q.1.1.2.2.2.1 q.1.1.2.2.2.2) (h16 : gI σ 18 16 = q.1.2.1.2.2) (h15 : ¬ q.1.2.1.2.2 = 0 → gL σ 18 15 = q.1.2.1.2.1) (h17 : gI σ 18 17 = q.1.2.1.1) (h18 : gI σ 18 18 = whI q.1.2.2) (hw : ∀ j, q.1.2.2 = some j → j ≤ m) : (okF q.1 s.2.2.1.1 → okc (MM 153 [mR (some 18)] σ) (some (mI 1)) (fun τ => cRD m τ (updS s q) ∧ cfa τ σ ∧ gI τ 18 8 = gI σ 18 8 ∧ gI τ 18 9 = gI σ 18 9)) ∧ (¬ okF q.1 s.2.2.1.1 → MM 153 [mR (some 18)] σ = some (some (mI 0), σ)) := by
  have w14 : gL σ 18 14 = srW q.1 := by
    unfold srW
    by_cases c : q.1.2.1.1 = 0
    · rw [if_pos c, h14b c]
    · rw [if_neg c, h14a c]
  obtain ⟨hl, ⟨r3, r4⟩, r1, r2⟩ := hr
  have sb := snW_b (r := q.1)
  have s46 : ∃ y : Int, MM 153 [mR (some 18)] σ = RR (lkB tb153) (B153_46, [some (mR (some 18)), none], [mI y], σ) ∧ (¬ y = 0 ↔ (¬ q.1.2.1.1 = 0 ∨ (q.1.2.1.2.2 = 0 ∧ okPl (srW q.1)) ∨ (¬ q.1.2.1.2.2 = 0 ∧ okPr (srW q.1) q.1.2.1.2.1))) := by
    rw [M153, e153_0, h17, h16, w14]
    by_cases c : q.1.2.1.1 = 0
    · rw [if_neg (fun z => z c)]
      by_cases p : q.1.2.1.2.2 = 0
      · rw [if_pos p, T8]
        simp only [Option.bind_some, Option.toList_some, Option.toList_none, List.cons_append, List.nil_append]
        rw [e153_38]
        by_cases o : okPl (srW q.1)
        · rw [b2_yes o, if_neg n10, e153_41]
          exact ⟨1, rfl, fun _ => Or.inr (Or.inl ⟨p, o⟩), fun _ => n10⟩
        · rw [b2_no o, if_pos y00, e153_45]
          exact ⟨0, rfl, fun z => absurd rfl z, fun z => z.elim (fun z => absurd c z) (fun z => z.elim (fun z => absurd z.2 o) (fun z => absurd p z.1))⟩
      · rw [if_neg p, h15 p, T7]
        simp only [Option.bind_some, Option.toList_some, Option.toList_none, List.cons_append, List.nil_append]
        rw [e153_25]
        by_cases o : okPr (srW q.1) q.1.2.1.2.1
        · rw [b2_yes o, if_neg n10, e153_41]
          exact ⟨1, rfl, fun _ => Or.inr (Or.inr ⟨p, o⟩), fun _ => n10⟩
        · rw [b2_no o, if_pos y00, e153_45]
          exact ⟨0, rfl, fun z => absurd rfl z, fun z => z.elim (fun z => absurd c z) (fun z => z.elim (fun z => absurd z.1 p) (fun z => absurd z.2 o))⟩
    · rw [if_pos c, e153_41]
      exact ⟨1, rfl, fun _ => Or.inl c, fun _ => n10⟩
  obtain ⟨y, e, hy⟩ := s46
  rw [e, e153_46]
  by_cases cy : y = 0
  · rw [if_pos cy]
    exact ⟨fun z => absurd cy (hy.mpr z.1), fun _ => rfl⟩
  · have cA := hy.mp cy
    have s67 : (if gI σ 18 16 = 0 then RR (lkB tb153) (B153_67, [some (mR (some 18)), some (mI y)], [mI 1, mI (gI σ 18 1)], σ) else RR (lkB tb153) (B153_67, [some (mR (some 18)), some (mI y)], [mI 2, mI (gI σ 18 1)], σ)) = RR (lkB tb153) (B153_67, [some (mR (some 18)), some (mI y)], [mI ((snW q.1 : Nat) : Int), mI (s.2.2.1.1 : Int)], σ) := by
      rw [h16, r1]
      unfold snW
      by_cases p : q.1.2.1.2.2 = 0
      · rw [if_pos p, if_pos p]
        rfl
      · rw [if_neg p, if_neg p]
        rfl
    rw [if_neg cy, s67, e153_67, w32_a (show s.2.2.1.1 + snW q.1 < 100001 by omega)]
    by_cases cM : s.2.2.1.1 + snW q.1 ≤ 200
    · refine ⟨fun _ => ?_, fun z => absurd ⟨cA, cM⟩ z⟩
      rw [if_pos (show ((s.2.2.1.1 + snW q.1 : Nat) : Int) ≤ 200 by omega)]
      have wr : ∀ (τ : MS) (s' : RD), s'.2.2.1 = (s.2.2.1.1 + snW q.1, fun i => if i = s.2.2.1.1 then srW q.1 else if i = s.2.2.1.1 + 1 ∧ ¬ q.1.2.1.2.2 = 0 then q.1.2.1.2.1 else s.2.2.1.2 i) → gL τ 19 s.2.2.1.1 = srW q.1 → (¬ q.1.2.1.2.2 = 0 → gL τ 19 (s.2.2.1.1 + 1) = q.1.2.1.2.1) → (∀ i, i < s.2.2.1.1 → gL τ 19 i = gL σ 19 i) → ∀ i, i < s'.2.2.1.1 → gL τ 19 i = s'.2.2.1.2 i := fun τ s' e b1 b2 b3 i hi => by
        rw [e] at hi ⊢
        show gL τ 19 i = if i = s.2.2.1.1 then srW q.1 else if i = s.2.2.1.1 + 1 ∧ ¬ q.1.2.1.2.2 = 0 then q.1.2.1.2.1 else s.2.2.1.2 i
        have hi : i < s.2.2.1.1 + snW q.1 := hi
        by_cases c1 : i = s.2.2.1.1
        · rw [if_pos c1, c1, b1]
        · rw [if_neg c1]
          by_cases c2 : i = s.2.2.1.1 + 1 ∧ ¬ q.1.2.1.2.2 = 0
          · rw [if_pos c2, c2.1, b2 c2.2]
          · rw [if_neg c2]
            have : i < s.2.2.1.1 := by
              by_cases p : q.1.2.1.2.2 = 0
              · have sn : snW q.1 = 1 := if_pos p
                omega
              · have : ¬ i = s.2.2.1.1 + 1 := fun z => c2 ⟨z, p⟩
                omega
            rw [b3 i this, r2 i this]
      cases hq : q.1.2.2 with
      | none =>
        have eu : updS s q = (s.1, s.2.1, (s.2.2.1.1 + snW q.1, fun i => if i = s.2.2.1.1 then srW q.1 else if i = s.2.2.1.1 + 1 ∧ ¬ q.1.2.1.2.2 = 0 then q.1.2.1.2.1 else s.2.2.1.2 i), q.2) := by
          unfold updS
          rw [hq]
        rw [hq] at h18
        rw [h18, if_pos (show whI none = -1 from rfl), eu]
        refine okc_m (A126 (x := y) r1 w14 h16 h15 cM) fun τ p => ?_
        obtain ⟨p1, p2, p3, p4, p5, p6, p7⟩ := p
        refine ⟨⟨⟨(p5 _ _ (by omega)).trans hl.1, fun l hh => ?_⟩, ⟨(p5 _ _ (by omega)).trans r3, fun u hh => ?_⟩, p1, wr τ _ rfl p2 p3 p4⟩, ⟨fun k s a _ _ => p5 k s (by omega), fun k s _ a => p6 k s a, p7⟩, p5 _ _ (by omega), p5 _ _ (by omega)⟩
        · rw [p5 _ _ (by omega), p5 _ _ (by omega)]
          exact hl.2 l hh
        · rw [p5 _ _ (by omega), p5 _ _ (by omega)]
          exact r4 u hh
      | some j =>
        obtain ⟨L, hL⟩ : ∃ L, L = s.2.1.1 := ⟨_, rfl⟩
        have eu : updS s q = (s.1, (L + 1, fun u => if u = L then (j, s.2.2.1.1, wdO q.1.1.1) else s.2.1.2 u), (s.2.2.1.1 + snW q.1, fun i => if i = s.2.2.1.1 then srW q.1 else if i = s.2.2.1.1 + 1 ∧ ¬ q.1.2.1.2.2 = 0 then q.1.2.1.2.1 else s.2.2.1.2 i), q.2) := by
          unfold updS
          rw [hq, hL]
        have jm := hw j hq
        rw [hq] at h18
        have h18 : gI σ 18 18 = (j : Int) := h18
        rw [← hL] at r3 r4
        have L1 : 2 * L < 400 := by omega
        have L2 : 2 * L + 1 < 400 := by omega
        have L3 : L < 100000 := by omega
        have L4 : 2 * L < 100000 := by omega
        have e13 : gI (sI σ 25 (2 * L) (j : Int)) 18 13 = (L : Int) := by rw [gI_sI, if_neg (by omega), r3]
        have e1 : gI (sI σ 25 (2 * L) (j : Int)) 18 1 = (s.2.2.1.1 : Int) := by rw [gI_sI, if_neg (by omega), r1]
        have e13' : gI (sI (sI σ 25 (2 * L) (j : Int)) 25 (2 * L + 1) (s.2.2.1.1 : Int)) 18 13 = (L : Int) := by rw [gI_sI, if_neg (by omega), e13]
        rw [h18, if_neg (show ¬ (j : Int) = -1 by omega), r3, w32_2 L3, if_pos (g25' L1), Int.toNat_natCast, e13, w32_2 L3, w32_s1 L4, if_pos (g25' L2), Int.toNat_natCast, e1, e13', w32_s1 L3, eu]
        obtain ⟨ρ, hρ⟩ : ∃ ρ, ρ = sI (sI (sI σ 25 (2 * L) (j : Int)) 25 (2 * L + 1) (s.2.2.1.1 : Int)) 18 13 ((L + 1 : Nat) : Int) := ⟨_, rfl⟩
        have fi : ∀ k s, ¬ (k = 18 ∧ s = 13) → ¬ (k = 25 ∧ (s = 2 * L ∨ s = 2 * L + 1)) → gI ρ k s = gI σ k s := fun k s a b => by
          rw [hρ, gI_sI, if_neg (by omega), gI_sI, if_neg (by omega), gI_sI, if_neg (by omega)]
        have fl : ∀ k s, gL ρ k s = gL σ k s := fun k s => by rw [hρ, gL_sI, gL_sI, gL_sI]
        have fr : ρ.2.2 = σ.2.2 := by rw [hρ]; rfl
        have f13 : gI ρ 18 13 = ((L + 1 : Nat) : Int) := by rw [hρ, gI_sI, if_pos ⟨rfl, rfl⟩]
        have f0 : gI ρ 25 (2 * L) = (j : Int) := by rw [hρ, gI_sI, if_neg (by omega), gI_sI, if_neg (by omega), gI_sI, if_pos ⟨rfl, rfl⟩]
        have f1 : gI ρ 25 (2 * L + 1) = (s.2.2.1.1 : Int) := by rw [hρ, gI_sI, if_neg (by omega), gI_sI, if_pos ⟨rfl, rfl⟩]
        rw [← hρ]
        refine okc_m (A126 (x := y) (q := q.1) ((fi _ _ (by omega) (by omega)).trans r1) ((fl _ _).trans w14) ((fi _ _ (by omega) (by omega)).trans h16) (fun z => (fl _ _).trans (h15 z)) cM) fun τ p => ?_
        obtain ⟨p1, p2, p3, p4, p5, p6, p7⟩ := p
        refine ⟨⟨⟨(p5 _ _ (by omega)).trans ((fi _ _ (by omega) (by omega)).trans hl.1), fun l hh => ?_⟩, ⟨(p5 _ _ (by omega)).trans f13, fun u hh => ?_⟩, p1, wr τ _ rfl p2 p3 (fun i hi => (p4 i hi).trans (fl _ _))⟩, ⟨fun k s a b c => (p5 k s (by omega)).trans (fi _ _ (by omega) (by omega)), fun k s _ a => (p6 k s a).trans (fl _ _), p7.trans fr⟩, (p5 _ _ (by omega)).trans (fi _ _ (by omega) (by omega)), (p5 _ _ (by omega)).trans (fi _ _ (by omega) (by omega))⟩
        · rw [p5 _ _ (by omega), p5 _ _ (by omega), fi _ _ (by omega) (by omega), fi _ _ (by omega) (by omega)]
          exact hl.2 l hh
        · have hh : u < L + 1 := hh
          show gI τ 25 (2 * u) = (((if u = L then (j, s.2.2.1.1, wdO q.1.1.1) else s.2.1.2 u) : Nat × Nat × Int).1 : Int) ∧ gI τ 25 (2 * u + 1) = (((if u = L then (j, s.2.2.1.1, wdO q.1.1.1) else s.2.1.2 u) : Nat × Nat × Int).2.1 : Int) ∧ ((if u = L then (j, s.2.2.1.1, wdO q.1.1.1) else s.2.1.2 u) : Nat × Nat × Int).1 ≤ m
          rw [p5 _ _ (by omega), p5 _ _ (by omega)]
          by_cases cu : u = L
          · rw [if_pos cu, cu, f0, f1]
            exact ⟨rfl, rfl, jm⟩
          · rw [if_neg cu, fi _ _ (by omega) (by omega), fi _ _ (by omega) (by omega)]
            exact r4 u (by omega)
    · rw [if_neg (show ¬ ((s.2.2.1.1 + snW q.1 : Nat) : Int) ≤ 200 by omega)]
      exact ⟨fun z => absurd z.2 cM, fun _ => rfl⟩
end CAS
