/-! ===== VALUES of the reference, at a place of its arrays ===== -/
theorem ms_ext {σ τ : MS} (h1 : ∀ k s, gI σ k s = gI τ k s) (h2 : ∀ k s, gL σ k s = gL τ k s) (h3 : σ.2.2 = τ.2.2) : σ = τ := by
  obtain ⟨a, b, c⟩ := σ
  obtain ⟨a', b', c'⟩ := τ
  have e1 : a = a' := funext fun k => funext fun s => h1 k s
  have e2 : b = b' := funext fun k => funext fun s => h2 k s
  have e3 : c = c' := h3
  rw [e1, e2, e3]
def aV (σ : MS) (i : Nat) : VL := (gI σ 118 i, rNv σ i, gI σ 119 i, gI σ 120 i, gI σ 122 i, gI σ 121 i)
def wK (σ : MS) (i : Nat) (k o w t r : Int) : MS := sI (sI (sI (sI (sI σ 118 i k) 119 i o) 120 i w) 121 i t) 122 i r
def wrV (σ : MS) (i : Nat) (v : VL) : MS := wN (wK σ i (vk v) (vo v) (vw v) (vt v) (vr v)) i (vn v)
abbrev vK (v : VL) (x : Int) : VL := (x, v.2)
abbrev vN (v : VL) (n : N6) : VL := (v.1, n, v.2.2)
abbrev vO (v : VL) (x : Int) : VL := (v.1, v.2.1, x, v.2.2.2)
abbrev vW (v : VL) (x : Int) : VL := (v.1, v.2.1, v.2.2.1, x, v.2.2.2.2)
abbrev vR (v : VL) (x : Int) : VL := (v.1, v.2.1, v.2.2.1, v.2.2.2.1, x, v.2.2.2.2.2)
abbrev vT (v : VL) (x : Int) : VL := (v.1, v.2.1, v.2.2.1, v.2.2.2.1, v.2.2.2.2.1, x)
section WV
variable {σ : MS} {i j k s : Nat} {v u : VL} {n : N6} {x : Int} {y : B64}
theorem gI_wrV : gI (wrV σ i v) k s = if k = 122 ∧ s = i then vr v else if k = 121 ∧ s = i then vt v else if k = 120 ∧ s = i then vw v else if k = 119 ∧ s = i then vo v else if k = 118 ∧ s = i then vk v else gI σ k s := rfl
theorem gL_wrV : gL (wrV σ i v) k s = if k = 117 ∧ s = i then jD (vn v) else if k = 116 ∧ s = i then jC (vn v) else if k = 115 ∧ s = i then jB (vn v) else if k = 114 ∧ s = i then jA (vn v) else if k = 113 ∧ s = i then jM (vn v) else if k = 112 ∧ s = i then jV (vn v) else gL σ k s := rfl
theorem rest_wrV : (wrV σ i v).2.2 = σ.2.2 := rfl
theorem gR_wrV : gR (wrV σ i v) k s = gR σ k s := rfl
theorem kd_wrV : kd (wrV σ i v) k = kd σ k := rfl
theorem nC_wrV : nC (wrV σ i v) = nC σ := rfl
theorem ab_wrV {ty : Nat} {z : Int} : ab (wrV σ i v) ty k z = ab σ ty k z := rfl
theorem ao_wrV {c : Nat} {z : Option Nat} : ao (wrV σ i v) c z = ao σ c z := rfl
theorem gI_wrV_o (h : ¬ (118 ≤ k ∧ k ≤ 122)) : gI (wrV σ i v) k s = gI σ k s := by
  rw [gI_wrV, if_neg (by omega), if_neg (by omega), if_neg (by omega), if_neg (by omega), if_neg (by omega)]
theorem gL_wrV_o (h : ¬ (112 ≤ k ∧ k ≤ 117)) : gL (wrV σ i v) k s = gL σ k s := by
  rw [gL_wrV, if_neg (by omega), if_neg (by omega), if_neg (by omega), if_neg (by omega), if_neg (by omega), if_neg (by omega)]
theorem gI_wrV_s (h : ¬ s = i) : gI (wrV σ i v) k s = gI σ k s := by
  rw [gI_wrV, if_neg (fun q => h q.2), if_neg (fun q => h q.2), if_neg (fun q => h q.2), if_neg (fun q => h q.2), if_neg (fun q => h q.2)]
theorem gL_wrV_s (h : ¬ s = i) : gL (wrV σ i v) k s = gL σ k s := by
  rw [gL_wrV, if_neg (fun q => h q.2), if_neg (fun q => h q.2), if_neg (fun q => h q.2), if_neg (fun q => h q.2), if_neg (fun q => h q.2), if_neg (fun q => h q.2)]
theorem aV_same : aV (wrV σ i v) i = v := by
  unfold aV rNv
  simp [gI_wrV, gL_wrV]
theorem aV_ne (h : ¬ j = i) : aV (wrV σ i v) j = aV σ j := by
  unfold aV rNv
  rw [gI_wrV_s h, gI_wrV_s h, gI_wrV_s h, gI_wrV_s h, gI_wrV_s h, gL_wrV_s h, gL_wrV_s h, gL_wrV_s h, gL_wrV_s h, gL_wrV_s h, gL_wrV_s h]
theorem aV_wrV : aV (wrV σ i v) j = if j = i then v else aV σ j := by
  by_cases h : j = i
  · rw [if_pos h, h, aV_same]
  · rw [if_neg h, aV_ne h]
theorem wrV_same : wrV (wrV σ i v) i u = wrV σ i u := by
  refine ms_ext (fun k s => ?_) (fun k s => ?_) rfl
  · rw [gI_wrV, gI_wrV, gI_wrV]
    repeat' split
    all_goals rfl
  · rw [gL_wrV, gL_wrV, gL_wrV]
    repeat' split
    all_goals rfl
theorem wrV_eta : wrV σ i (aV σ i) = σ := by
  refine ms_ext (fun k s => ?_) (fun k s => ?_) rfl
  · rw [gI_wrV]
    repeat' split
    all_goals first | rfl | (rename_i h; rw [h.1, h.2]; rfl)
  · rw [gL_wrV]
    repeat' split
    all_goals first | rfl | (rename_i h; rw [h.1, h.2]; rfl)
theorem wrV_comm (h : ¬ j = i) : wrV (wrV σ i v) j u = wrV (wrV σ j u) i v := by
  refine ms_ext (fun k s => ?_) (fun k s => ?_) rfl
  · by_cases e : s = i
    · rw [gI_wrV_s (i := j) (by omega), gI_wrV, gI_wrV (σ := wrV σ j u), gI_wrV_s (i := j) (by omega)]
    · rw [gI_wrV_s (σ := wrV σ j u) e]
      by_cases e2 : s = j
      · rw [gI_wrV, gI_wrV_s e, ← gI_wrV]
      · rw [gI_wrV_s e2, gI_wrV_s e2, gI_wrV_s e]
  · by_cases e : s = i
    · rw [gL_wrV_s (i := j) (by omega), gL_wrV, gL_wrV (σ := wrV σ j u), gL_wrV_s (i := j) (by omega)]
    · rw [gL_wrV_s (σ := wrV σ j u) e]
      by_cases e2 : s = j
      · rw [gL_wrV, gL_wrV_s e, ← gL_wrV]
      · rw [gL_wrV_s e2, gL_wrV_s e2, gL_wrV_s e]
theorem wrV_sI (h : ¬ (118 ≤ k ∧ k ≤ 122)) : sI (wrV σ i v) k s x = wrV (sI σ k s x) i v := by
  refine ms_ext (fun k' s' => ?_) (fun k' s' => rfl) rfl
  rw [gI_sI, gI_wrV, gI_wrV, gI_sI]
  by_cases e : k' = k ∧ s' = s
  · rw [if_pos e, if_neg (by omega), if_neg (by omega), if_neg (by omega), if_neg (by omega), if_neg (by omega)]
    rw [if_pos e]
  · rw [if_neg e, if_neg e]
theorem wrV_sL (h : ¬ (112 ≤ k ∧ k ≤ 117)) : sL (wrV σ i v) k s y = wrV (sL σ k s y) i v := by
  refine ms_ext (fun k' s' => rfl) (fun k' s' => ?_) rfl
  rw [gL_sL, gL_wrV, gL_wrV, gL_sL]
  by_cases e : k' = k ∧ s' = s
  · rw [if_pos e, if_neg (by omega), if_neg (by omega), if_neg (by omega), if_neg (by omega), if_neg (by omega), if_neg (by omega)]
    rw [if_pos e]
  · rw [if_neg e, if_neg e]
theorem ite_wrV {c : Prop} {d : Decidable c} : (@ite MS c d (wrV σ i u) (wrV σ i v)) = wrV σ i (@ite _ c d u v) := by
  split <;> rfl
/-! reading and writing one field -/
theorem q118 : gI σ 118 i = vk (aV σ i) := rfl
theorem q119 : gI σ 119 i = vo (aV σ i) := rfl
theorem q120 : gI σ 120 i = vw (aV σ i) := rfl
theorem q121 : gI σ 121 i = vt (aV σ i) := rfl
theorem q122 : gI σ 122 i = vr (aV σ i) := rfl
theorem q112 : gL σ 112 i = jV (vn (aV σ i)) := rfl
theorem q113 : gL σ 113 i = jM (vn (aV σ i)) := rfl
theorem q114 : gL σ 114 i = jA (vn (aV σ i)) := rfl
theorem q115 : gL σ 115 i = jB (vn (aV σ i)) := rfl
theorem q116 : gL σ 116 i = jC (vn (aV σ i)) := rfl
theorem q117 : gL σ 117 i = jD (vn (aV σ i)) := rfl
theorem w_aux : wrV (wrV σ i v) i u = wrV σ i u := wrV_same
theorem p118 : sI σ 118 i x = wrV σ i (vK (aV σ i) x) := by
  refine ms_ext (fun k s => ?_) (fun k s => ?_) rfl
  · rw [gI_wrV, gI_sI]
    by_cases e : s = i
    · subst e
      repeat' split
      all_goals first | rfl | omega | (rename_i h; rw [h.1]; rfl) | (rename_i h _; rw [h.1]; rfl)
    · simp only [e, and_false, if_false]
  · show gL σ k s = _
    conv => lhs; rw [← wrV_eta (σ := σ) (i := i)]
    rfl
theorem p119 : sI σ 119 i x = wrV σ i (vO (aV σ i) x) := by
  refine ms_ext (fun k s => ?_) (fun k s => ?_) rfl
  · rw [gI_wrV, gI_sI]
    by_cases e : s = i
    · subst e
      repeat' split
      all_goals first | rfl | omega | (rename_i h; rw [h.1]; rfl) | (rename_i h _; rw [h.1]; rfl)
    · simp only [e, and_false, if_false]
  · show gL σ k s = _
    conv => lhs; rw [← wrV_eta (σ := σ) (i := i)]
    rfl
theorem p120 : sI σ 120 i x = wrV σ i (vW (aV σ i) x) := by
  refine ms_ext (fun k s => ?_) (fun k s => ?_) rfl
  · rw [gI_wrV, gI_sI]
    by_cases e : s = i
    · subst e
      repeat' split
      all_goals first | rfl | omega | (rename_i h; rw [h.1]; rfl) | (rename_i h _; rw [h.1]; rfl)
    · simp only [e, and_false, if_false]
  · show gL σ k s = _
    conv => lhs; rw [← wrV_eta (σ := σ) (i := i)]
    rfl
theorem p121 : sI σ 121 i x = wrV σ i (vT (aV σ i) x) := by
  refine ms_ext (fun k s => ?_) (fun k s => ?_) rfl
  · rw [gI_wrV, gI_sI]
    by_cases e : s = i
    · subst e
      repeat' split
      all_goals first | rfl | omega | (rename_i h; rw [h.1]; rfl) | (rename_i h _; rw [h.1]; rfl)
    · simp only [e, and_false, if_false]
  · show gL σ k s = _
    conv => lhs; rw [← wrV_eta (σ := σ) (i := i)]
    rfl
theorem p122 : sI σ 122 i x = wrV σ i (vR (aV σ i) x) := by
  refine ms_ext (fun k s => ?_) (fun k s => ?_) rfl
  · rw [gI_wrV, gI_sI]
    by_cases e : s = i
    · subst e
      repeat' split
      all_goals first | rfl | omega | (rename_i h; rw [h.1]; rfl) | (rename_i h _; rw [h.1]; rfl)
    · simp only [e, and_false, if_false]
  · show gL σ k s = _
    conv => lhs; rw [← wrV_eta (σ := σ) (i := i)]
    rfl
theorem wN_V : wN σ i n = wrV σ i (vN (aV σ i) n) := by
  refine ms_ext (fun k s => ?_) (fun k s => rfl) rfl
  show gI σ k s = _
  conv => lhs; rw [← wrV_eta (σ := σ) (i := i)]
  rfl
theorem wK_N {a b c d e : Int} : wN (wK σ i a b c d e) i n = wrV σ i (a, n, b, c, e, d) := rfl
theorem rN_V : rNv σ i = vn (aV σ i) := rfl
theorem aV_sI (h : ¬ (118 ≤ k ∧ k ≤ 122)) : aV (sI σ k s x) i = aV σ i := by
  unfold aV
  rw [gI_sI, gI_sI, gI_sI, gI_sI, gI_sI, if_neg (by omega), if_neg (by omega), if_neg (by omega), if_neg (by omega), if_neg (by omega)]
  rfl
theorem aV_sL (h : ¬ (112 ≤ k ∧ k ≤ 117)) : aV (sL σ k s y) i = aV σ i := by
  unfold aV rNv
  rw [gL_sL, gL_sL, gL_sL, gL_sL, gL_sL, gL_sL, if_neg (by omega), if_neg (by omega), if_neg (by omega), if_neg (by omega), if_neg (by omega), if_neg (by omega)]
  rfl
theorem aV_wN : aV (wN σ i n) j = if j = i then vN (aV σ i) n else aV σ j := by rw [wN_V, aV_wrV]
end WV
