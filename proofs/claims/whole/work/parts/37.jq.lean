/-! ===== what an instruction of the reference's judge may touch ===== -/
abbrev jR (s : Nat) : Prop := s < 104 ∨ (26104 ≤ s ∧ s < 26208) ∨ 32552 ≤ s
abbrev jT (k s : Nat) : Prop := ((118 ≤ k ∧ k ≤ 122) ∧ jR s) ∨ (k = 80 ∧ (s = 85 ∨ s = 88 ∨ s = 89 ∨ s = 90 ∨ s = 102 ∨ s = 103)) ∨ (k = 123 ∧ (s = 0 ∨ s = 251 ∨ s = 313)) ∨ (k = 124 ∧ (s < 4 ∨ (1004 ≤ s ∧ s < 1008) ∨ 1252 ≤ s)) ∨ (k = 125 ∧ (s = 0 ∨ s = 251 ∨ s = 313)) ∨ (k = 126 ∧ (s < 64 ∨ (16064 ≤ s ∧ s < 16128) ∨ 20032 ≤ s))
def jq (τ σ : MS) : Prop := (∀ k s, ¬ jT k s → gI τ k s = gI σ k s) ∧ (∀ k s, ¬ ((112 ≤ k ∧ k ≤ 117) ∧ jR s) → gL τ k s = gL σ k s) ∧ τ.2.2 = σ.2.2
section JQ
variable {a b c τ σ : MS} {i k s : Nat} {v : VL} {x : Int} {S : ST}
theorem jq_r (σ : MS) : jq σ σ := ⟨fun _ _ _ => rfl, fun _ _ _ => rfl, rfl⟩
theorem jq_t (h1 : jq a b) (h2 : jq b c) : jq a c := ⟨fun k s p => (h1.1 k s p).trans (h2.1 k s p), fun k s p => (h1.2.1 k s p).trans (h2.2.1 k s p), h1.2.2.trans h2.2.2⟩
theorem jq_sq (h : sqc a b) : jq a b := ⟨fun k s p => h.1 k s (fun q1 q2 => by omega) (by omega), fun k s p => h.2.1 k s (fun q1 q2 => by omega), h.2.2⟩
theorem jq_w (h : jR i) : jq (wrV σ i v) σ := by
  refine ⟨fun k s p => ?_, fun k s p => ?_, rfl⟩
  · by_cases e : s = i
    · subst e
      exact gI_wrV_o (fun q => p (Or.inl ⟨q, h⟩))
    · exact gI_wrV_s e
  · by_cases e : s = i
    · subst e
      exact gL_wrV_o (fun q => p ⟨q, h⟩)
    · exact gL_wrV_s e
theorem jq_I (h : jT k s) : jq (sI σ k s x) σ := by
  refine ⟨fun k' s' p => ?_, fun _ _ _ => rfl, rfl⟩
  rw [gI_sI, if_neg]
  intro q
  rw [q.1, q.2] at p
  exact p h
theorem jq_f : jq (flt σ x) σ := jq_I (by omega)
theorem jq_mk {r : Int} : jq (mk10 σ r) σ := jq_sq mk_sq
theorem jq_EO {E : EV} (h : jq τ σ) (o : EO σ E) : EO τ E := fun m hm => by
  rw [h.1 _ _ (by omega), h.1 _ _ (by omega), h.1 _ _ (by omega), h.1 _ _ (by omega)]
  exact o m hm
/-- what is behind an instruction: the fault, the state, there, whether the way ends, the newest TAG -/
def jpo (σ τ : MS) (f : Int) (S' : ST) (n e t' : Int) : Prop := jq τ σ ∧ gI τ 80 90 = f ∧ (f = 0 → J0 τ S' ∧ gI τ 80 88 = n ∧ gI τ 80 89 = e ∧ gI τ 80 85 = t')
theorem jpo_f {f : Int} {S' : ST} {n e t' : Int} (hf : ¬ f = 0) (h0 : gI σ 80 90 = 0) (h : sqc τ (flt σ f)) : jpo σ τ f S' n e t' := by
  refine ⟨jq_t (jq_sq h) jq_f, ?_, fun z => absurd z hf⟩
  rw [sqc_I h (by omega) (by omega), fl_g, h0, fst0]
theorem jpo_w {S' : ST} {t' : Int} (h0 : gI σ 80 90 = 0) (hJ : J0 σ S) (hF : sF S ≤ 4) (hk : k < 26 * sF S) (hS : S' = (sF S, upV (sV S) k v, sB S, sH S)) (h : sqc τ (wrV (sI σ 80 85 t') k v)) : jpo σ τ 0 S' (gI σ 80 88) (gI σ 80 89) t' := by
  refine ⟨jq_t (jq_sq h) (jq_t (jq_w (by omega)) (jq_I (by omega))), ?_, fun _ => ⟨?_, ?_, ?_, ?_⟩⟩
  · rw [sqc_I h (by omega) (by omega), gW80, gI_sI, if_neg (by omega), h0]
  · rw [hS]
    exact JSt_sq h (by omega) hF (J0_wV hF (JSt_sI (by omega) hJ))
  · rw [sqc_I h (by omega) (by omega), gW80, gI_sI, if_neg (by omega)]
  · rw [sqc_I h (by omega) (by omega), gW80, gI_sI, if_neg (by omega)]
  · rw [sqc_I h (by omega) (by omega), gW80, gI_sI, if_pos ⟨rfl, rfl⟩]
theorem jpo_s (h0 : gI σ 80 90 = 0) (hJ : J0 σ S) (hF : sF S ≤ 4) (h : sqc τ σ) : jpo σ τ 0 S (gI σ 80 88) (gI σ 80 89) (gI σ 80 85) :=
  ⟨jq_sq h, (sqc_I h (by omega) (by omega)).trans h0, fun _ => ⟨JSt_sq h (by omega) hF hJ, sqc_I h (by omega) (by omega), sqc_I h (by omega) (by omega), sqc_I h (by omega) (by omega)⟩⟩
/-- bytes set, one by one -/
def oneB (S : ST) (f b : Nat) : ST := (sF S, upV (sV S) (26 * f + 10 + b / 8) (vR (unpV (sV S (26 * f + 10 + b / 8))) (((vr (unpV (sV S (26 * f + 10 + b / 8)))).toNat ||| 1 <<< (b % 8) : Nat) : Int)), sB S, sH S)
theorem unp_c {v : VL} (h : canV v) : 0 ≤ vr (unpV v) ∧ vr (unpV v) < 256 := by
  unfold unpV
  split
  · rename_i k
    have := (h.2.1 k).2
    omega
  · show 0 ≤ (if vk v = 1 then (255 : Int) else 0) ∧ (if vk v = 1 then (255 : Int) else 0) < 256
    split <;> omega
theorem one_a {f b m : Nat} (h : canS S) (hp : 26 * f + 10 + (b + m) / 8 < 26 * sF S) : oneB (putB S f b m m) f (b + m) = putB S f b (m + 1) (m + 1) := by
  have e := putB_u (S := S) (f := f) (b := b) (m := m) (k := m) (Nat.le_refl m) (unp_c (h _ hp)).1
  have e2 := putB_b (S := S) (f := f) (b := b) (n := m + 1) (k := m) (by omega)
  unfold oneB
  rw [← e2, ← e]
  generalize 26 * f + 10 + (b + m) / 8 = p
  refine st_ext rfl (fun j => ?_) rfl rfl
  generalize putB S f b m m = P
  show (if j = p then vR (unpV (sV P p)) (((vr (unpV (sV P p))).toNat ||| 1 <<< ((b + m) % 8) : Nat) : Int) else sV P j) = (if j = p then vR (if p = p then unpV (sV P p) else sV P p) (((vr (if p = p then unpV (sV P p) else sV P p)).toNat ||| 1 <<< ((b + m) % 8) : Nat) : Int) else if j = p then unpV (sV P p) else sV P j)
  rw [if_pos (rfl : p = p)]
  by_cases e : j = p
  · rw [if_pos e, if_pos e]
  · rw [if_neg e, if_neg e, if_neg e]
theorem one_c {f b n k : Nat} (hk : k < n) : oneB (putB S f b n k) f (b + k) = putB S f b n (k + 1) := by
  rw [← putB_b hk]
  have z : unpV (sV (putB S f b n k) (26 * f + 10 + (b + k) / 8)) = sV (putB S f b n k) (26 * f + 10 + (b + k) / 8) := by
    refine unp_0 ?_
    rw [put_v, if_pos (by omega)]
    exact unp_k (sV S (26 * f + 10 + (b + k) / 8))
  unfold oneB
  rw [z]
  rfl
/-- a stretch of bytes is set -/
theorem L507 {n b : Nat} {f : Nat} {Q : Nat → ST} (hF : sF (Q 0) ≤ 4) (hf : f < sF (Q 0)) (hb : gI σ 80 102 = (b : Int)) (hff : gI σ 80 103 = (f : Int)) (hn : b + n ≤ 128) (hQ : ∀ m, m < n → oneB (Q m) f (b + m) = Q (m + 1)) (hc : ∀ m, m < n → canS (Q m)) (hJ : J0 σ (Q 0)) : okc (MM 507 [mR (some 80), mI (n : Int)] σ) none (fun τ => J0 τ (Q n) ∧ (∀ k s, ¬ ((118 ≤ k ∧ k ≤ 122) ∧ s < 104) → gI τ k s = gI σ k s) ∧ (∀ k s, ¬ ((112 ≤ k ∧ k ≤ 117) ∧ s < 104) → gL τ k s = gL σ k s) ∧ τ.2.2 = σ.2.2) := by
  have hs : ∀ m, m ≤ n → sF (Q m) = sF (Q 0) := by
    intro m
    induction m with
    | zero => intro _; rfl
    | succ m ih =>
      intro hm
      rw [← hQ m (by omega)]
      exact ih (by omega)
  have key : ∀ (j m : Nat) (τ : MS), j + m = n → J0 τ (Q m) → (∀ k s, ¬ ((118 ≤ k ∧ k ≤ 122) ∧ s < 104) → gI τ k s = gI σ k s) → (∀ k s, ¬ ((112 ≤ k ∧ k ≤ 117) ∧ s < 104) → gL τ k s = gL σ k s) → τ.2.2 = σ.2.2 → okc (RR (lkB tb507) (B507_5, [some (mR (some 80)), some (mI (n : Int)), some (mI ((b + m : Nat) : Int))], [], τ)) none (fun τ => J0 τ (Q n) ∧ (∀ k s, ¬ ((118 ≤ k ∧ k ≤ 122) ∧ s < 104) → gI τ k s = gI σ k s) ∧ (∀ k s, ¬ ((112 ≤ k ∧ k ≤ 117) ∧ s < 104) → gL τ k s = gL σ k s) ∧ τ.2.2 = σ.2.2) := by
    intro j
    induction j with
    | zero =>
      intro m τ e hJ g1 g2 g3
      have e : m = n := by omega
      subst e
      have t2 : gI τ 80 102 = (b : Int) := (g1 _ _ (by omega)).trans hb
      rw [e507_5, t2, w32_i (by omega) (by omega), if_pos (by omega)]
      exact okc_s ⟨hJ, g1, g2, g3⟩
    | succ j ih =>
      intro m τ e hJ g1 g2 g3
      have t2 : gI τ 80 102 = (b : Int) := (g1 _ _ (by omega)).trans hb
      have t3 : gI τ 80 103 = (f : Int) := (g1 _ _ (by omega)).trans hff
      have sm := hs m (by omega)
      have lt : 26 * f + 10 + (b + m) / 8 < 26 * sF (Q m) := by omega
      have hv := J0_v hJ lt
      have cv := unp_c (hc m (by omega) _ lt)
      have hq := hQ m (by omega)
      unfold oneB at hq
      generalize hp : 26 * f + 10 + (b + m) / 8 = p at *
      have pb : inB (p : Int) := ⟨by omega, by omega⟩
      have t4 : MM 504 [mR (some 80), mI ((b + m : Nat) : Int)] τ = some (some (mI (p : Int)), τ) := by
        have := T504 (σ := τ) (b := b + m) (by omega) (by omega)
        rwa [show (gI τ 80 103).toNat = f by omega, hp] at this
      have t5 : ∀ v, MM 504 [mR (some 80), mI ((b + m : Nat) : Int)] (wrV τ p v) = some (some (mI (p : Int)), wrV τ p v) := fun v => by
        have := T504 (σ := wrV τ p v) (b := b + m) (by rw [gW80]; omega) (by omega)
        rwa [gW80, show (gI τ 80 103).toNat = f by omega, hp] at this
      rw [e507_5, t2, w32_i (by omega) (by omega), if_neg (by omega), t4]
      simp only [Option.bind_some, Option.toList_some, List.cons_append, List.nil_append, e507_21, T506 pb, Int.toNat_natCast, Option.toList_none, e507_24, t5, e507_33]
      simp only [Option.getD_some, g_122]
      rw [if_pos ⟨by omega, by omega⟩, if_pos ⟨by omega, by omega⟩, p122, aV_same, wrV_same, q122, aV_same, hv, tmod8, iOr_nat cv.1 cv.2 (by omega), w32_i (by omega) (by omega)]
      have jn := J0_wV (k := p) (v := vR (unpV (sV (Q m) p)) (((vr (unpV (sV (Q m) p))).toNat ||| 1 <<< ((b + m) % 8) : Nat) : Int)) (by omega) hJ
      rw [hq] at jn
      have e1 : ((b + m : Nat) : Int) + 1 = ((b + (m + 1) : Nat) : Int) := by omega
      rw [e1]
      refine ih (m + 1) _ (by omega) jn (fun k s q => ?_) (fun k s q => ?_) g3
      · rw [← g1 k s q]
        by_cases z : s = p
        · exact gI_wrV_o (by omega)
        · exact gI_wrV_s z
      · rw [← g2 k s q]
        by_cases z : s = p
        · exact gL_wrV_o (by omega)
        · exact gL_wrV_s z
  rw [M507, e507_0, hb]
  exact key n 0 σ (by omega) hJ (fun _ _ _ => rfl) (fun _ _ _ => rfl) rfl
end JQ
