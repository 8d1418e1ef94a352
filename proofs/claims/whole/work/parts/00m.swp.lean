section SW
variable {W : Type} {B : WB W} {E : EV} {th : Int → Nat} {tp : Int → B64} {S : ST} {c : TC W} {t : Int}
/-- the same registers stand after memory has changed -/
theorem rdR_same {c' : TC W} (h1 : cR c' = cR c) (h2 : cN c' = cN c) (r : Nat) : rdR c' r = rdR c r := by
  unfold rdR
  rw [h1, h2]
theorem putB_self (h : gS B E th tp S c) {f b n : Nat} (hf : f < sF S) (hb : b + n ≤ 128) (hs : ∀ i, i < n → (cS c f (b + i)).1 = 1) : gS B E th tp (putB S f b n n) c :=
  putB_g (m := n) h hf hb ⟨Nat.le_refl _, Nat.le_refl _⟩ ⟨⟨rfl, rfl, rfl, rfl⟩, rfl, rfl, rfl⟩ (fun _ _ _ => rfl) fun j j1 j2 => by
    have e := hs (j - b) (by omega)
    rw [show b + (j - b) = j by omega] at e
    exact ⟨e, h.2.2.2.2.2.2.1 _ _ e⟩
/-- bytes that are read, at a place that the judge allows -/
theorem rdL_g (hB : okB B) (h : gS B E th tp S c) (ho : okS E t S) {v : VL} {s : SV} {x n : Nat} (lo : locG B S c v s.1 x n) (hs : vk v = 3 → areS S (vw v).toNat x n = true) : ∃ l, rdL B c s.1 x n = some l ∧ l.length = n ∧ (∀ y ∈ l, y.toNat < 256) ∧ (vk v = 3 → ∀ i, i < n → (cS c (vw v).toNat (x + i)).1 = 1) := by
  by_cases k : vk v = 3
  · rcases lo with ⟨_, ⟨fo, fs⟩, xl⟩ | lo
    · have b1 : ∀ i, i < n → (cS c (vw v).toNat (x + i)).1 = 1 := fun i hi => set_g h fs (by omega) (areS_t (hs k) hi)
      have := ho.1
      refine ⟨_, by rw [fo]; exact rdL_stk (by omega) n x xl b1, by rw [List.length_map, List.length_range], fun y hy => ?_, fun _ => b1⟩
      obtain ⟨i, i1, i2⟩ := List.mem_map.mp hy
      rw [← i2]
      exact h.2.2.2.2.2.2.1 _ _ (b1 i (List.mem_range.mp i1))
    · exact absurd k lo.1
  · obtain ⟨l, l1, l2, l3⟩ := rdL_some (B := B) (c := c) (o := s.1) n x (fun i hi => rdB_wld hB k lo hi)
    exact ⟨l, l1, l2, l3, fun e => absurd e k⟩
theorem swp_g (hB : okB B) (h : gS B E th tp S c) (ho : okS E t S) {w : B64} (hw : fD w ≤ 10 ∧ fS w ≤ 10 ∧ (fI w % 2 = 1 ∧ ¬ fI w = 241 → fS w ≤ 9)) (hf : (swpV E S w).1 = 0) : ∃ c', swT B c w = some c' ∧ cP c' = cP c ∧ gS B E th tp (swpV E S w).2 c' ∧ okS E t (swpV E S w).2 := by
  have f := fld_rng w
  have hs : sF S - 1 < 4 := by have := ho.1; omega
  obtain ⟨bn, b8⟩ := bytN_r w
  have ob : -32768 ≤ fO w ∧ fO w ≤ 32768 := by omega
  have on : 1 ≤ bytN w ∧ bytN w ≤ 128 := by omega
  have on8 : bytN w ≤ 8 := by omega
  have gx := rV_g h ho (r := dR w) (dR_10 hw.1)
  have ox := rV_ok ho (r := dR w) (dR_10 hw.1)
  have gy := rV_g h ho (r := sRr w) (sR_10 hw.2.1)
  have g0 := rV_g h ho (r := 0) (by omega)
  unfold swpV at hf ⊢
  split at hf
  · exfalso; have hf : (3 : Int) = 0 := hf; omega
  · rename_i u0
    rw [if_neg u0]
    split at hf
    · exfalso; have hf : (14 : Int) = 0 := hf; omega
    · rename_i m0
      rw [if_neg m0]
      split at hf
      · exfalso; have hf : (4 : Int) = 0 := hf; omega
      · rename_i k0
        rw [if_neg k0]
        have mv : mvs (rgV S (dR w)) := by
          unfold mvs
          omega
        split at hf
        · exfalso; have hf : (5 : Int) = 0 := hf; omega
        · rename_i q2
          have rm : room E (rgV S (dR w)) (fO w) (bytN w) := Decidable.not_not.mp q2
          rw [if_neg q2]
          obtain ⟨lo, lx⟩ := room_g h ho mv gx ox ob on rm
          generalize ex : (offN (rdR c (dR w)).2 (fO w)).toNat = x at *
          split at hf
          · exfalso; have hf : (6 : Int) = 0 := hf; omega
          · rename_i q3
            rw [if_neg q3]
            have ar : vk (rgV S (dR w)) = 3 → areS S (vw (rgV S (dR w))).toNat x (bytN w) = true := fun k3 => by
              have lx := lx k3
              have xe : (vo (rgV S (dR w)) + fO w + 128).toNat = x := by omega
              rw [xe] at q3
              cases e : areS S (vw (rgV S (dR w))).toNat x (bytN w) with
              | true => rfl
              | false => exact absurd ⟨k3, e⟩ q3
            split at hf
            · exfalso; have hf : (7 : Int) = 0 := hf; omega
            · rename_i q4
              rw [if_neg q4]
              have ky : vk (rgV S (sRr w)) = 1 := Decidable.byContradiction fun e => q4 (Or.inl e)
              have k1 : fI w = 241 → vk (rgV S 0) = 1 := fun e => Decidable.byContradiction fun e2 => q4 (Or.inr ⟨e, e2⟩)
              have Y := gV_1 gy ky
              unfold swT
              rw [if_neg (not_not_intro Y.1)]
              obtain ⟨l, l1, l2, l3, l4⟩ := rdL_g hB h ho lo ar
              have lb := leN_lt l (by omega) l3
              rw [l2] at lb
              rw [ex, l1]
              simp only
              have fin : ∀ c', cP c' = cP c → gS B E th tp (if vk (rgV S (dR w)) = 3 then putB S (vw (rgV S (dR w))).toNat x (bytN w) (bytN w) else S) c' → gS B E th tp (if vk (rgV S (dR w)) = 3 then putB S (vw (rgV S (dR w))).toNat (vo (rgV S (dR w)) + fO w + 128).toNat (bytN w) (bytN w) else S) c' := fun c' _ g => by
                by_cases k3 : vk (rgV S (dR w)) = 3
                · have lx := lx k3
                  have xe : (vo (rgV S (dR w)) + fO w + 128).toNat = x := by omega
                  rw [if_pos k3, xe]
                  rwa [if_pos k3] at g
                · rw [if_neg k3]
                  rwa [if_neg k3] at g
              have okk : okS E t (if vk (rgV S (dR w)) = 3 then putB S (vw (rgV S (dR w))).toNat (vo (rgV S (dR w)) + fO w + 128).toNat (bytN w) (bytN w) else S) := by
                split
                · exact putB_ok ho
                · exact ho
              obtain ⟨n1, n2, n3, n4, n5⟩ := num_g hB h ho on.1 (y := swpX (fI w) (leN l) (rdR c (sRr w)).2) lo
              obtain ⟨m1, m2, m3, m4, m5⟩ := num_g hB h ho on.1 (y := (rdR c (sRr w)).2) lo
              have same : gS B E th tp (if vk (rgV S (dR w)) = 3 then putB S (vw (rgV S (dR w))).toNat x (bytN w) (bytN w) else S) c := by
                by_cases k3 : vk (rgV S (dR w)) = 3
                · rw [if_pos k3]
                  rcases lo with lo | lo
                  · exact putB_self h lo.2.1.2 lo.2.2 (l4 k3)
                  · exact absurd k3 lo.1
                · rw [if_neg k3]
                  exact h
              by_cases i241 : fI w = 241
              · rw [if_pos i241, if_pos i241, if_neg (not_not_intro (gV_1 g0 (k1 i241)).1)]
                by_cases eq : leN l = lowB (8 * bytN w) (rdR c 0).2
                · rw [if_pos eq, m2]
                  exact ⟨_, rfl, m3, wV_g (fin m1 m3 m5) okk (by omega) (gV_num (inN_wide lb)), wV_ok okk (Int.le_refl _) (by omega) okV_num (fun k => by have k2 : vk (numV (wideN (bytN w))) = 1 := rfl; exfalso; omega)⟩
                · rw [if_neg eq]
                  exact ⟨_, rfl, rfl, wV_g (fin c rfl same) okk (by omega) (gV_num (inN_wide lb)), wV_ok okk (Int.le_refl _) (by omega) okV_num (fun k => by have k2 : vk (numV (wideN (bytN w))) = 1 := rfl; exfalso; omega)⟩
              · rw [if_neg i241, if_neg i241, n2]
                refine ⟨_, rfl, ?_⟩
                by_cases od : fI w % 2 = 1
                · rw [if_pos od, if_pos od]
                  have s9 := sR_9 (hw.2.2 ⟨od, i241⟩)
                  exact ⟨n3, wV_g (fin n1 n3 n5) okk s9 (gV_num (inN_wide lb)), wV_ok okk (Int.le_refl _) s9 okV_num (fun k => by have k2 : vk (numV (wideN (bytN w))) = 1 := rfl; exfalso; omega)⟩
                · rw [if_neg od, if_neg od]
                  exact ⟨n3, fin n1 n3 n5, okk⟩
end SW
