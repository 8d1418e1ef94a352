/-! ===== the reference's judge: kept states, ways that wait ===== -/
def KR (σ : MS) (N : Nat) (K : Nat → KT) : Prop := ∀ k, k < N → gI σ 127 k = kA (K k) ∧ gI σ 128 k = kB (K k) ∧ gI σ 129 k = kF (K k) ∧ gI σ 130 k = kW (K k) ∧ gI σ 131 k = kL (K k)
def KB (K : Nat → KT) (N : Nat) (C : Int) : Prop := ∀ k : Nat, k < N → (-1 ≤ kB (K k) ∧ kB (K k) < k) ∧ (0 ≤ kF (K k) ∧ kF (K k) ≤ 4000) ∧ (0 ≤ kL (K k) ∧ kL (K k) ≤ C) ∧ (-C ≤ kW (K k) ∧ kW (K k) ≤ C)
def kq (τ σ : MS) : Prop := (∀ k s, ¬ ((k = 130 ∨ k = 131) ∧ s < 252) → gI τ k s = gI σ k s) ∧ (∀ k s, gL τ k s = gL σ k s) ∧ τ.2.2 = σ.2.2
section KEPT
variable {σ τ : MS} {N k : Nat} {K : Nat → KT} {n C : Int} {S : ST} {E : EV} {t : Int}
theorem kq_r (σ : MS) : kq σ σ := ⟨fun _ _ _ => rfl, fun _ _ => rfl, rfl⟩
theorem kq_t {a b c : MS} (h1 : kq a b) (h2 : kq b c) : kq a c := ⟨fun k s p => (h1.1 k s p).trans (h2.1 k s p), fun k s => (h1.2.1 k s).trans (h2.2.1 k s), h1.2.2.trans h2.2.2⟩
def ovQ (σ : MS) (k : Nat) (n : Int) : MS := sI (sI σ 131 k (if gI σ 131 k < n then n else gI σ 131 k)) 130 k (gI σ 130 k - 1)
theorem ov_q (h : k < 252) : kq (ovQ σ k n) σ := by
  refine ⟨fun k' s p => ?_, fun _ _ => rfl, rfl⟩
  unfold ovQ
  rw [gI_sI, if_neg (by omega), gI_sI, if_neg (by omega)]
theorem ov_K (h : KR σ N K) (hk : k < N) : KR (ovQ σ k n) N (ovrK K k n) := fun j hj => by
  obtain ⟨a1, a2, a3, a4, a5⟩ := h j hj
  obtain ⟨b1, b2, b3, b4, b5⟩ := h k hk
  unfold ovQ ovrK upK
  by_cases e : j = k
  · subst e
    simp only [gI_sI, Nat.reduceEqDiff, false_and, and_self, if_false, if_true]
    exact ⟨a1, a2, a3, by rw [a4], by rw [a5]⟩
  · simp only [gI_sI, Nat.reduceEqDiff, false_and, true_and, e, if_false]
    exact ⟨a1, a2, a3, a4, a5⟩
theorem ov_B (h : KB K N C) (hk : k < N) (hn : 0 ≤ n ∧ n ≤ C + 4000) (hC : 0 ≤ C) : KB (ovrK K k n) N (C + 4000) := fun j hj => by
  obtain ⟨a1, a2, a3, a4⟩ := h j hj
  obtain ⟨b1, b2, b3, b4⟩ := h k hk
  unfold ovrK upK
  by_cases e : j = k
  · subst e
    rw [if_pos rfl]
    refine ⟨a1, a2, ?_, ?_⟩
    · show 0 ≤ (if kL (K j) < n then n else kL (K j)) ∧ (if kL (K j) < n then n else kL (K j)) ≤ C + 4000
      split <;> omega
    · show -(C + 4000) ≤ kW (K j) - 1 ∧ kW (K j) - 1 ≤ C + 4000
      omega
  · rw [if_neg e]
    exact ⟨a1, a2, by omega, by omega⟩
set_option maxHeartbeats 1000000 in
theorem L484 {x1 : Int} (hN : N ≤ 252) : ∀ (f : Nat) (k : Nat) (K : Nat → KT) (σ : MS) (C : Int), KR σ N K → KB K N C → k < N → k < f → 0 ≤ C → C + 4000 * (f : Int) ≤ 2000000 → okc (RR (lkB tb484) (B484_41, [some (mR (some 80)), some (mI x1), some (mI (k : Int)), none, none], [], σ)) none (fun τ => KR τ N (cloK f K k) ∧ kq τ σ) := by
  intro f
  induction f with
  | zero => intro k K σ C _ _ _ h; omega
  | succ f ih =>
    intro k K σ C hK hB hk hf hC hC2
    obtain ⟨a1, a2, a3, a4, a5⟩ := hK k hk
    obtain ⟨b1, b2, b3, b4⟩ := hB k hk
    have i0 : 0 ≤ (k : Int) ∧ (k : Int) < 252 := by omega
    unfold cloK
    by_cases c1 : kW (K k) = 0
    · by_cases c2 : kB (K k) < 0
      · rw [if_neg (fun q => by omega)]
        simp only [e484_41, Option.getD_some, Option.bind_some, Option.toList_some, Option.toList_none, List.cons_append, List.nil_append, and_self, and_true, true_and, false_and, and_false, ite_self, not_true_eq_false, not_false_eq_true, reduceIte, Nat.reduceEqDiff, ab_I, ab_L, ab_R, ao_I, ao_L, ao_R, gL_sL, gI_sI, gR_sR, gI_sL, gI_sR, gL_sI, gL_sR, gR_sI, gR_sL, g_130, g_128, i0.1, i0.2, Int.toNat_natCast, a4, a2, c1, c2]
        exact okc_s ⟨hK, kq_r _⟩
      · rw [if_pos ⟨c1, by omega⟩]
        have lb : (kB (K k)).toNat < N := by omega
        obtain ⟨c3, c4, c5, c6, c7⟩ := hK _ lb
        obtain ⟨d1, d2, d3, d4⟩ := hB _ lb
        have eb : kB (K k) = (((kB (K k)).toNat : Nat) : Int) := by omega
        have i1 : 0 ≤ kB (K k) ∧ kB (K k) < 252 := by omega
        have ew : w32 (kF (K k) + kL (K k)) = kF (K k) + kL (K k) := w32_i (by omega) (by omega)
        have e1 : w32 (kW (K (kB (K k)).toNat) - 1) = kW (K (kB (K k)).toNat) - 1 := w32_i (by omega) (by omega)
        have ex : ¬ (130 : Nat) = 131 := by decide
        have ihh := ih (kB (K k)).toNat (ovrK K (kB (K k)).toNat (kF (K k) + kL (K k))) (ovQ σ (kB (K k)).toNat (kF (K k) + kL (K k))) (C + 4000) (ov_K hK lb) (ov_B hB lb (by omega) hC) lb (by omega) (by omega) (by omega)
        have fin : okc (RR (lkB tb484) (B484_41, [some (mR (some 80)), some (mI x1), some (mI (kB (K k))), some (mI (kB (K k))), some (mI (kF (K k) + kL (K k)))], [], ovQ σ (kB (K k)).toNat (kF (K k) + kL (K k)))) none (fun τ => KR τ N (cloK f (ovrK K (kB (K k)).toNat (kF (K k) + kL (K k))) (kB (K k)).toNat) ∧ kq τ σ) := by
          refine okc_q (ls := [some (mR (some 80)), some (mI x1), some (mI (((kB (K k)).toNat : Nat) : Int)), none, none]) ?_ (okc_m ihh fun τ q => ⟨q.1, kq_t q.2 (ov_q (by omega))⟩)
          rw [← eb]
          exact (by repeat (first | exact lq_nil | refine lq_cons (Or.inr rfl) ?_ | refine lq_cons (Or.inl rfl) ?_))
        unfold ovQ at fin
        rw [c7, c6] at fin
        by_cases c8 : kF (K k) + kL (K k) ≤ kL (K (kB (K k)).toNat)
        · rw [if_neg (show ¬ kL (K (kB (K k)).toNat) < kF (K k) + kL (K k) by omega)] at fin
          simp only [e484_41, e484_108, Option.getD_some, Option.bind_some, Option.toList_some, Option.toList_none, List.cons_append, List.nil_append, and_self, and_true, true_and, false_and, and_false, ite_self, not_true_eq_false, not_false_eq_true, reduceIte, Nat.reduceEqDiff, ab_I, ab_L, ab_R, ao_I, ao_L, ao_R, gL_sL, gI_sI, gR_sR, gI_sL, gI_sR, gL_sI, gL_sR, gR_sI, gR_sL, g_130, g_128, g_129, g_131, i0.1, i0.2, i1.1, i1.2, Int.toNat_natCast, a4, a2, a3, a5, c1, c2, c7, c6, ew, c8, e1]
          exact fin
        · rw [if_pos (show kL (K (kB (K k)).toNat) < kF (K k) + kL (K k) by omega)] at fin
          simp only [e484_41, e484_108, Option.getD_some, Option.bind_some, Option.toList_some, Option.toList_none, List.cons_append, List.nil_append, and_self, and_true, true_and, false_and, and_false, ite_self, not_true_eq_false, not_false_eq_true, reduceIte, Nat.reduceEqDiff, ab_I, ab_L, ab_R, ao_I, ao_L, ao_R, gL_sL, gI_sI, gR_sR, gI_sL, gI_sR, gL_sI, gL_sR, gR_sI, gR_sL, g_130, g_128, g_129, g_131, i0.1, i0.2, i1.1, i1.2, Int.toNat_natCast, a4, a2, a3, a5, c1, c2, c7, c6, ew, c8, e1]
          exact fin
    · rw [if_neg (fun q => c1 q.1)]
      simp only [e484_41, Option.getD_some, Option.bind_some, Option.toList_some, Option.toList_none, List.cons_append, List.nil_append, and_self, and_true, true_and, false_and, and_false, ite_self, not_true_eq_false, not_false_eq_true, reduceIte, Nat.reduceEqDiff, ab_I, ab_L, ab_R, ao_I, ao_L, ao_R, gL_sL, gI_sI, gR_sR, gI_sL, gI_sR, gL_sI, gL_sR, gR_sI, gR_sL, g_130, i0.1, i0.2, Int.toNat_natCast, a4, c1]
      exact okc_s ⟨hK, kq_r _⟩
theorem T484 (hN : N ≤ 250) (hK : KR σ N K) (hB : KB K N 4000) (hl : gI σ 80 82 = (k : Int)) (hk : k < N) (hn : 0 ≤ n ∧ n ≤ 8000) : okc (MM 484 [mR (some 80), mI n] σ) none (fun τ => KR τ N (endK K k n) ∧ kq τ σ) := by
  obtain ⟨a1, a2, a3, a4, a5⟩ := hK k hk
  obtain ⟨b1, b2, b3, b4⟩ := hB k hk
  have i0 : 0 ≤ (k : Int) ∧ (k : Int) < 252 := by omega
  have e1 : w32 (kW (K k) - 1) = kW (K k) - 1 := w32_i (by omega) (by omega)
  have l := L484 (x1 := n) (show N ≤ 252 by omega) 250 k (ovrK K k n) (ovQ σ k n) (4000 + 4000) (ov_K hK hk) (ov_B hB hk (by omega) (by omega)) hk (by omega) (by omega) (by omega)
  have fin : okc (RR (lkB tb484) (B484_41, [some (mR (some 80)), some (mI n), some (mI (k : Int)), none, none], [], ovQ σ k n)) none (fun τ => KR τ N (endK K k n) ∧ kq τ σ) := okc_m l fun τ q => ⟨q.1, kq_t q.2 (ov_q (by omega))⟩
  unfold ovQ at fin
  rw [a5, a4] at fin
  by_cases c : n ≤ kL (K k)
  · rw [if_neg (by omega)] at fin
    simp only [M484, e484_0, e484_30, Option.getD_some, Option.bind_some, Option.toList_some, Option.toList_none, List.cons_append, List.nil_append, and_self, and_true, true_and, false_and, and_false, ite_self, not_true_eq_false, not_false_eq_true, reduceIte, Nat.reduceEqDiff, ab_I, ab_L, ab_R, ao_I, ao_L, ao_R, gL_sL, gI_sI, gR_sR, gI_sL, gI_sR, gL_sI, gL_sR, gR_sI, gR_sL, g_130, g_131, hl, i0.1, i0.2, Int.toNat_natCast, a5, a4, c, e1]
    exact fin
  · rw [if_pos (by omega)] at fin
    simp only [M484, e484_0, e484_30, Option.getD_some, Option.bind_some, Option.toList_some, Option.toList_none, List.cons_append, List.nil_append, and_self, and_true, true_and, false_and, and_false, ite_self, not_true_eq_false, not_false_eq_true, reduceIte, Nat.reduceEqDiff, ab_I, ab_L, ab_R, ao_I, ao_L, ao_R, gL_sL, gI_sI, gR_sR, gI_sL, gI_sR, gL_sI, gL_sR, gR_sI, gR_sL, g_130, g_131, hl, i0.1, i0.2, Int.toNat_natCast, a5, a4, c, e1]
    exact fin
/-! copies of states -/
theorem cp_I {x y : Nat} {k s : Nat} (h4 : (gI σ 123 x).toNat ≤ 4 ∧ (gI σ 125 x).toNat ≤ 64) (h : ¬ (((118 ≤ k ∧ k ≤ 122) ∧ 104 * y ≤ s ∧ s < 104 * y + 104) ∨ ((k = 123 ∨ k = 125) ∧ s = y) ∨ (k = 124 ∧ 4 * y ≤ s ∧ s < 4 * y + 4) ∨ (k = 126 ∧ 64 * y ≤ s ∧ s < 64 * y + 64))) : gI (cpS σ x y) k s = gI σ k s := by
  unfold cpS
  rw [gI_rkV, if_neg (by omega), gI_rkI, if_neg (by omega), gI_rkI, if_neg (by omega), gI_sI, if_neg (by omega), gI_sI, if_neg (by omega)]
theorem cp_L {x y : Nat} {k s : Nat} (h4 : (gI σ 123 x).toNat ≤ 4) (h : ¬ ((112 ≤ k ∧ k ≤ 117) ∧ 104 * y ≤ s ∧ s < 104 * y + 104)) : gL (cpS σ x y) k s = gL σ k s := by
  unfold cpS
  rw [gL_rkV, if_neg (by omega)]
  rfl
theorem cp_r {x y : Nat} : (cpS σ x y).2.2 = σ.2.2 := rfl
theorem cp_J {x y : Nat} (hx : x < 314) (hy : y < 314) (hxy : ¬ x = y) (hF : 1 ≤ sF S ∧ sF S ≤ 4) (hH : (sH S).length ≤ 64) (j : JSt σ x S) : JSt (cpS σ x y) y S := by
  obtain ⟨j1, j2, j3, j4, j5⟩ := j
  unfold cpS
  rw [j1, j4, Int.toNat_natCast, Int.toNat_natCast]
  refine ⟨?_, fun k hk => ?_, fun f f1 f2 => ?_, ?_, fun i hi => ?_⟩
  · rw [gI_rkV, if_neg (by omega), gI_rkI, if_neg (by omega), gI_rkI, if_neg (by omega), gI_sI, if_neg (by omega), gI_sI, if_pos ⟨rfl, rfl⟩]
  · rw [aV_rkV, if_pos (by omega), ← j2 k hk, show 104 * y + k - 104 * y + 104 * x = 104 * x + k by omega]
    unfold aV rNv
    rw [gI_rkI_o (by omega), gI_rkI_o (by omega), gI_rkI_o (by omega), gI_rkI_o (by omega), gI_rkI_o (by omega), gI_rkI_o (by omega), gI_rkI_o (by omega), gI_rkI_o (by omega), gI_rkI_o (by omega), gI_rkI_o (by omega)]
    rw [gI_sI, if_neg (by omega), gI_sI, if_neg (by omega), gI_sI, if_neg (by omega), gI_sI, if_neg (by omega), gI_sI, if_neg (by omega), gI_sI, if_neg (by omega), gI_sI, if_neg (by omega), gI_sI, if_neg (by omega), gI_sI, if_neg (by omega), gI_sI, if_neg (by omega)]
    rfl
  · rw [gI_rkV, if_neg (by omega), gI_rkI, if_neg (by omega), gI_rkI, if_pos ⟨rfl, by omega, by omega⟩, ← j3 f f1 f2, gI_sI, if_neg (by omega), gI_sI, if_neg (by omega), show 4 * y + f - 4 * y + 4 * x = 4 * x + f by omega]
  · rw [gI_rkV, if_neg (by omega), gI_rkI, if_neg (by omega), gI_rkI, if_neg (by omega), gI_sI, if_pos ⟨rfl, rfl⟩]
  · rw [gI_rkV, if_neg (by omega), gI_rkI, if_pos ⟨rfl, by omega, by omega⟩, gI_rkI, if_neg (by omega), gI_sI, if_neg (by omega), gI_sI, if_neg (by omega), show 64 * y + i - 64 * y + 64 * x = 64 * x + i by omega]
    exact j5 i hi
/-- another row stays -/
theorem cp_o {x y i : Nat} {T : ST} (h4 : (gI σ 123 x).toNat ≤ 4 ∧ (gI σ 125 x).toNat ≤ 64) (hi : ¬ i = y) (hF : sF T ≤ 4) (hH : (sH T).length ≤ 64) (j : JSt σ i T) : JSt (cpS σ x y) i T := by
  obtain ⟨j1, j2, j3, j4, j5⟩ := j
  refine ⟨(cp_I h4 (by omega)).trans j1, fun k hk => ?_, fun f f1 f2 => (cp_I h4 (by omega)).trans (j3 f f1 f2), (cp_I h4 (by omega)).trans j4, fun m hm => (cp_I h4 (by omega)).trans (j5 m hm)⟩
  rw [← j2 k hk]
  unfold aV rNv
  rw [cp_I h4 (by omega), cp_I h4 (by omega), cp_I h4 (by omega), cp_I h4 (by omega), cp_I h4 (by omega), cp_L h4.1 (by omega), cp_L h4.1 (by omega), cp_L h4.1 (by omega), cp_L h4.1 (by omega), cp_L h4.1 (by omega), cp_L h4.1 (by omega)]
theorem cp_jq {x y : Nat} (h4 : (gI σ 123 x).toNat ≤ 4 ∧ (gI σ 125 x).toNat ≤ 64) (hy : y = 0 ∨ y = 251 ∨ y = 313) : jq (cpS σ x y) σ := ⟨fun k s p => cp_I h4 (by omega), fun k s p => cp_L h4.1 (by omega), rfl⟩
theorem JSt_4 {i : Nat} (hF : sF S ≤ 4) (hH : (sH S).length ≤ 64) (j : JSt σ i S) : (gI σ 123 i).toNat ≤ 4 ∧ (gI σ 125 i).toNat ≤ 64 := by
  rw [j.1, j.2.2.2.1]
  omega
/-- kinds that can be, frames, what is held -/
def kst (S : ST) : Prop := (1 ≤ sF S ∧ sF S ≤ 4) ∧ (sH S).length ≤ 64 ∧ ∀ k : Nat, k < 26 * sF S → 0 ≤ vk (sV S k) ∧ vk (sV S k) ≤ 10
theorem kst_of (ho : okS E t S) : kst S := ⟨ho.1, ho.2.2.2.2.2.1, fun k hk => (ho.2.1 k hk).1⟩
theorem kst_all {g : VL → VL} (h : kst S) (hg : ∀ v : VL, 0 ≤ vk v ∧ vk v ≤ 10 → 0 ≤ vk (g v) ∧ vk (g v) ≤ 10) : kst (allV S g) := ⟨h.1, h.2.1, fun k hk => by
  have hk : k < 26 * sF S := hk
  show 0 ≤ vk (if k < 26 * sF S then g (sV S k) else sV S k) ∧ vk (if k < 26 * sF S then g (sV S k) else sV S k) ≤ 10
  rw [if_pos hk]
  exact hg _ (h.2.2 k hk)⟩
theorem kst_rel {T : Int} (h : kst S) : kst (relH S T) := ⟨h.1, Nat.le_trans (List.length_filter_le _ _) h.2.1, h.2.2⟩
theorem kst_bec {T k : Int} (h : kst S) : kst (becZ S T k) := by
  have a : kst (allV S (zerV T)) := kst_all h fun v hv => by
    unfold zerV
    split
    · exact ⟨by decide, by decide⟩
    · exact hv
  unfold becZ
  split
  · exact kst_rel a
  · exact a
theorem kst_plc {T : Int} (h : kst S) : kst (allV S (plcV T)) := kst_all h fun v hv => by
  unfold plcV
  split
  · show 0 ≤ (if vk v = 6 then (5 : Int) else 9) ∧ (if vk v = 6 then (5 : Int) else 9) ≤ 10
    split <;> omega
  · exact hv
theorem kst_rch {T n : Int} (h : kst S) : kst (allV S (rchV T n)) := kst_all h fun v hv => by
  unfold rchV
  split
  · exact hv
  · exact hv
theorem kst_w {r : Nat} {v : VL} (h : kst S) (hv : 0 ≤ vk v ∧ vk v ≤ 10) : kst (wV S r v) := ⟨h.1, h.2.1, fun k hk => by
  show 0 ≤ vk (if k = 26 * (sF S - 1) + r then v else sV S k) ∧ vk (if k = 26 * (sF S - 1) + r then v else sV S k) ≤ 10
  split
  · exact hv
  · exact h.2.2 k hk⟩
theorem kst_nrw {w : B64} {c : Int} {is : Bool} {x y : N6} (h : kst S) : kst (nrwS S w c is x y) := by
  have n1 : ∀ n : N6, 0 ≤ vk (numV n) ∧ vk (numV n) ≤ 10 := fun n => ⟨show (0 : Int) ≤ 1 by decide, show (1 : Int) ≤ 10 by decide⟩
  unfold nrwS
  split
  · exact kst_w (kst_w h (n1 _)) (n1 _)
  · exact kst_w h (n1 _)
theorem T468s {x y : Nat} (hx : x < 314) (hy : y < 314) (hxy : ¬ x = y) (ho : kst S) (j : JSt σ x S) : MM 468 [mR (some 80), mI (x : Int), mI (y : Int)] σ = some (none, cpS σ x y) := by
  have hF := ho.1
  have hH := ho.2.1
  refine T468 hx hy hxy (by rw [j.1]; omega) (by rw [j.2.2.2.1]; omega) fun i hi => ?_
  rw [j.1, Int.toNat_natCast] at hi
  rw [j.2.1 i hi]
  have := ho.2.2 i hi
  omega
/-! a way that waits -/
def waS (σ : MS) (g : Int) : MS :=
  sI (sI (sI (sI (sI (sI (cpS σ 0 (252 + (gI σ 80 78).toNat)) 132 (gI σ 80 78).toNat g) 133 (gI σ 80 78).toNat (gI σ 80 82)) 134 (gI σ 80 78).toNat (gI σ 80 83)) 130 (gI σ 80 82).toNat (gI σ 130 (gI σ 80 82).toNat + 1)) 80 78 (gI σ 80 78 + 1)) 138 4 (max (gI σ 138 4) (gI σ 80 78 + 1))
theorem T514f {g : Int} (h : gI σ 80 78 = 60) : MM 514 [mR (some 80), mI g] σ = some (some (mI 0), flt σ 12) := by
  simp only [M514, e514_0, e514_15, Option.getD_some, Option.bind_some, Option.toList_some, Option.toList_none, List.cons_append, List.nil_append, and_self, and_true, true_and, false_and, and_false, ite_self, not_true_eq_false, not_false_eq_true, reduceIte, Nat.reduceEqDiff, ab_I, ab_L, ab_R, ao_I, ao_L, ao_R, gL_sL, gI_sI, gR_sR, gI_sL, gI_sR, gL_sI, gL_sR, gR_sI, gR_sL, h, T473]
set_option maxHeartbeats 1000000 in
theorem T514 {g : Int} {m l : Nat} (hm : gI σ 80 78 = (m : Int)) (h60 : m < 60) (hl : gI σ 80 82 = (l : Int)) (h25 : l < 250) (hw : -100000 ≤ gI σ 130 l ∧ gI σ 130 l ≤ 100000) (ho : kst S) (j : J0 σ S) : MM 514 [mR (some 80), mI g] σ = some (some (mI 1), waS σ g) := by
  have hF := ho.1
  have hH := ho.2.1
  have h4 := JSt_4 hF.2 hH j
  have n60 : ¬ (m : Int) = 60 := by omega
  have e1 : w32 (252 + (m : Int)) = ((252 + m : Nat) : Int) := by rw [w32_i (by omega) (by omega)]; omega
  have t4 := T468s (σ := σ) (x := 0) (y := 252 + m) (by omega) (by omega) (by omega) ho j
  have z0 : ((0 : Nat) : Int) = 0 := rfl
  rw [z0] at t4
  unfold waS
  rw [hm, hl, Int.toNat_natCast, Int.toNat_natCast]
  have c1 : gI (cpS σ 0 (252 + m)) 80 78 = (m : Int) := (cp_I h4 (by omega)).trans hm
  have c2 : gI (cpS σ 0 (252 + m)) 80 82 = (l : Int) := (cp_I h4 (by omega)).trans hl
  have c3 : gI (cpS σ 0 (252 + m)) 80 83 = gI σ 80 83 := cp_I h4 (by omega)
  have c4 : gI (cpS σ 0 (252 + m)) 130 l = gI σ 130 l := cp_I h4 (by omega)
  have c5 : gI (cpS σ 0 (252 + m)) 138 4 = gI σ 138 4 := cp_I h4 (by omega)
  generalize cpS σ 0 (252 + m) = ρ at *
  have i1 : 0 ≤ (m : Int) ∧ (m : Int) < 60 := by omega
  have i2 : 0 ≤ (l : Int) ∧ (l : Int) < 252 := by omega
  have e2 : w32 (gI σ 130 l + 1) = gI σ 130 l + 1 := w32_i (by omega) (by omega)
  have e3 : w32 ((m : Int) + 1) = (m : Int) + 1 := w32_i (by omega) (by omega)
  have s66 : MM 514 [mR (some 80), mI g] σ = RR (lkB tb514) (B514_66, [some (mR (some 80)), some (mI g)], [], sI (sI (sI ρ 132 m g) 133 m (l : Int)) 134 m (gI σ 80 83)) := by
    simp only [M514, e514_0, e514_30, Option.getD_some, Option.bind_some, Option.toList_some, Option.toList_none, List.cons_append, List.nil_append, and_self, and_true, true_and, false_and, and_false, ite_self, not_true_eq_false, not_false_eq_true, reduceIte, Nat.reduceEqDiff, ab_I, ab_L, ab_R, ao_I, ao_L, ao_R, gL_sL, gI_sI, gR_sR, gI_sL, gI_sR, gL_sI, gL_sR, gR_sI, gR_sL, hm, n60, e1, t4, c1, c2, c3, g_132, g_133, g_134, i1.1, i1.2, Int.toNat_natCast]
  rw [s66]
  by_cases c : (m : Int) + 1 ≤ gI σ 138 4
  · rw [Int.max_eq_left c]
    simp only [e514_66, e514_120, Option.getD_some, Option.bind_some, Option.toList_some, Option.toList_none, List.cons_append, List.nil_append, and_self, and_true, true_and, false_and, and_false, ite_self, not_true_eq_false, not_false_eq_true, reduceIte, Nat.reduceEqDiff, ab_I, ab_L, ab_R, ao_I, ao_L, ao_R, gL_sL, gI_sI, gR_sR, gI_sL, gI_sR, gL_sI, gL_sR, gR_sI, gR_sL, c1, c2, c4, c5, g_130, g_138, i2.1, i2.2, Int.reduceLT, Int.reduceLE, show (4 : Int).toNat = 4 from rfl, Int.toNat_natCast, e2, e3, c]
  · rw [Int.max_eq_right (Int.le_of_lt (Int.not_le.mp c))]
    simp only [e514_66, e514_120, Option.getD_some, Option.bind_some, Option.toList_some, Option.toList_none, List.cons_append, List.nil_append, and_self, and_true, true_and, false_and, and_false, ite_self, not_true_eq_false, not_false_eq_true, reduceIte, Nat.reduceEqDiff, ab_I, ab_L, ab_R, ao_I, ao_L, ao_R, gL_sL, gI_sI, gR_sR, gI_sL, gI_sR, gL_sI, gL_sR, gR_sI, gR_sL, c1, c2, c4, c5, g_130, g_138, i2.1, i2.2, Int.reduceLT, Int.reduceLE, show (4 : Int).toNat = 4 from rfl, Int.toNat_natCast, e2, e3, c]
theorem wa_I {g : Int} {m l : Nat} (hm : gI σ 80 78 = (m : Int)) (hl : gI σ 80 82 = (l : Int)) (h4 : (gI σ 123 0).toNat ≤ 4 ∧ (gI σ 125 0).toNat ≤ 64) {k s : Nat} (h : ¬ (((118 ≤ k ∧ k ≤ 122) ∧ 104 * (252 + m) ≤ s ∧ s < 104 * (252 + m) + 104) ∨ ((k = 123 ∨ k = 125) ∧ s = 252 + m) ∨ (k = 124 ∧ 4 * (252 + m) ≤ s ∧ s < 4 * (252 + m) + 4) ∨ (k = 126 ∧ 64 * (252 + m) ≤ s ∧ s < 64 * (252 + m) + 64) ∨ ((k = 132 ∨ k = 133 ∨ k = 134) ∧ s = m) ∨ (k = 130 ∧ s = l) ∨ (k = 80 ∧ s = 78) ∨ (k = 138 ∧ s = 4))) : gI (waS σ g) k s = gI σ k s := by
  unfold waS
  rw [hm, hl, Int.toNat_natCast, Int.toNat_natCast, gI_sI, if_neg (by omega), gI_sI, if_neg (by omega), gI_sI, if_neg (by omega), gI_sI, if_neg (by omega), gI_sI, if_neg (by omega), gI_sI, if_neg (by omega), cp_I h4 (by omega)]
theorem wa_L {g : Int} {m : Nat} (hm : gI σ 80 78 = (m : Int)) (h4 : (gI σ 123 0).toNat ≤ 4) {k s : Nat} (h : ¬ ((112 ≤ k ∧ k ≤ 117) ∧ 104 * (252 + m) ≤ s ∧ s < 104 * (252 + m) + 104)) : gL (waS σ g) k s = gL σ k s := by
  unfold waS
  rw [hm, Int.toNat_natCast]
  exact cp_L h4 h
theorem wa_r {g : Int} : (waS σ g).2.2 = σ.2.2 := rfl
theorem wa_o {g : Int} {m l i : Nat} {T : ST} (hm : gI σ 80 78 = (m : Int)) (hl : gI σ 80 82 = (l : Int)) (h4 : (gI σ 123 0).toNat ≤ 4 ∧ (gI σ 125 0).toNat ≤ 64) (hi : ¬ i = 252 + m) (hF : sF T ≤ 4) (hH : (sH T).length ≤ 64) (j : JSt σ i T) : JSt (waS σ g) i T := by
  obtain ⟨j1, j2, j3, j4, j5⟩ := j
  refine ⟨(wa_I hm hl h4 (by omega)).trans j1, fun k hk => ?_, fun f f1 f2 => (wa_I hm hl h4 (by omega)).trans (j3 f f1 f2), (wa_I hm hl h4 (by omega)).trans j4, fun m hm' => (wa_I hm hl h4 (by omega)).trans (j5 m hm')⟩
  rw [← j2 k hk]
  unfold aV rNv
  rw [wa_I hm hl h4 (by omega), wa_I hm hl h4 (by omega), wa_I hm hl h4 (by omega), wa_I hm hl h4 (by omega), wa_I hm hl h4 (by omega), wa_L hm h4.1 (by omega), wa_L hm h4.1 (by omega), wa_L hm h4.1 (by omega), wa_L hm h4.1 (by omega), wa_L hm h4.1 (by omega), wa_L hm h4.1 (by omega)]
theorem wa_J {g : Int} {m : Nat} (hm : gI σ 80 78 = (m : Int)) (h60 : m < 60) (hF : 1 ≤ sF S ∧ sF S ≤ 4) (hH : (sH S).length ≤ 64) (j : J0 σ S) : JSt (waS σ g) (252 + m) S := by
  have c := cp_J (x := 0) (y := 252 + m) (by omega) (by omega) (by omega) hF hH j
  unfold waS
  rw [hm, Int.toNat_natCast]
  exact JSt_sI (by omega) (JSt_sI (by omega) (JSt_sI (by omega) (JSt_sI (by omega) (JSt_sI (by omega) (JSt_sI (by omega) c)))))
end KEPT
