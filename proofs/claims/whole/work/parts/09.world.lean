/-! ===== the small machine's store and the machine's cells ===== -/
def rV (ad : Nat → Nat) : MV → Value
  | .inl x => .int (rI x)
  | .inr (.inl b) => .long (rJ b)
  | .inr (.inr o) => va_rf (o.map ad)
def rF (ad : Nat → Nat) (σ : MS) (c k s : Nat) : Value := match fkK c s with
  | 0 => .int (rI (gI σ k s))
  | 1 => .long (rJ (gL σ k s))
  | 3 => .ref (ad (fIn c s k))
  | 4 => .int (rI (gI σ k s))
  | _ => va_rf ((gR σ k s).map ad)
def mE (cA ad : Nat → Nat) (σ : MS) (k : Nat) : va_E :=
  if 20 ≤ (kd σ k).1 then .inr ((kd σ k).1 - 20, (List.range (clN ((kd σ k).1 - 20))).map (rF ad σ ((kd σ k).1 - 20) k))
  else .inl (cA (kd σ k).1, (kd σ k).2, if (kd σ k).1 = 4 then .inr (.inl fun i => rJ (gL σ k i)) else if 5 ≤ (kd σ k).1 then .inr (.inr (.inr (.inr fun i => (gR σ k i).map ad))) else .inl fun i => rI (gI σ k i))
def mW (cA ad : Nat → Nat) (σ : MS) : va_W := (List.range (nC σ)).map fun k => (ad k, mE cA ad σ k)
theorem mW_get {cA ad : Nat → Nat} {σ : MS} {k : Nat} (h : k < nC σ) : (mW cA ad σ)[k]? = some (ad k, mE cA ad σ k) := by
  unfold mW
  rw [List.getElem?_map, List.getElem?_range h]
  rfl
theorem mW_get' {cA ad : Nat → Nat} {σ : MS} {k : Nat} {q : Nat × va_E} (h : (mW cA ad σ)[k]? = some q) : k < nC σ ∧ q = (ad k, mE cA ad σ k) := by
  have hk : k < nC σ := by
    have := (List.getElem?_eq_some_iff.mp h).1
    unfold mW at this
    simpa using this
  rw [mW_get hk] at h
  exact ⟨hk, (Option.some.inj h).symm⟩
theorem mW_len (cA ad : Nat → Nat) (σ : MS) : (mW cA ad σ).length = nC σ := by unfold mW; simp
theorem mW_set {cA ad : Nat → Nat} {σ σ' : MS} {k : Nat} (hn : nC σ' = nC σ) (ho : ∀ j, j ≠ k → mE cA ad σ' j = mE cA ad σ j) : (mW cA ad σ).set k (ad k, mE cA ad σ' k) = mW cA ad σ' := by
  apply List.ext_getElem?
  intro j
  by_cases hj : j < nC σ
  · rw [mW_get (by rw [hn]; exact hj)]
    by_cases e : j = k
    · subst e
      rw [List.getElem?_set_self (by rw [mW_len]; exact hj)]
    · rw [List.getElem?_set_ne (fun q => e q.symm), mW_get hj, ho j e]
  · rw [List.getElem?_eq_none (by rw [List.length_set, mW_len]; omega), List.getElem?_eq_none (by rw [mW_len, hn]; omega)]
theorem mE_congr {cA ad ad' : Nat → Nat} {σ σ' : MS} {j : Nat} (h1 : kd σ' j = kd σ j) (h2 : ∀ i, gI σ' j i = gI σ j i) (h3 : ∀ i, gL σ' j i = gL σ j i) (h4 : ∀ i, (gR σ' j i).map ad' = (gR σ j i).map ad) (h5 : ∀ c s, (kd σ j).1 = 20 + c → s < clN c → fkK c s = 3 → ad' (fIn c s j) = ad (fIn c s j)) : mE cA ad' σ' j = mE cA ad σ j := by
  unfold mE
  rw [h1]
  split
  · congr 2
    apply List.map_congr_left
    intro s hs
    unfold rF
    rw [h2, h3, h4]
    split <;> try rfl
    rename_i hf
    rw [h5 _ _ (by omega) (List.mem_range.mp hs) hf]
  · congr 3
    split
    · congr 2
      funext i
      rw [h3]
    · split
      · congr 5
        funext i
        exact h4 i
      · congr 1
        funext i
        rw [h2]
theorem u2_self {α : Type} (f : Nat → Nat → α) (k s : Nat) (v : α) : u2 f k s v k s = v := by unfold u2; simp
theorem u2_ne {α : Type} (f : Nat → Nat → α) {k s j i : Nat} (v : α) (h : ¬ (j = k ∧ i = s)) : u2 f k s v j i = f j i := by unfold u2; rw [if_neg h]
theorem kd_sI (σ : MS) (k s : Nat) (v : Int) : kd (sI σ k s v) = kd σ := rfl
theorem kd_sL (σ : MS) (k s : Nat) (v : BitVec 64) : kd (sL σ k s v) = kd σ := rfl
theorem kd_sR (σ : MS) (k s : Nat) (v : Option Nat) : kd (sR σ k s v) = kd σ := rfl
theorem mE_sI_ne {cA ad : Nat → Nat} {σ : MS} {k s j : Nat} {v : Int} (h : j ≠ k) : mE cA ad (sI σ k s v) j = mE cA ad σ j := mE_congr rfl (fun i => u2_ne _ _ (fun q => h q.1)) (fun _ => rfl) (fun _ => rfl) (fun _ _ _ _ _ => rfl)
theorem mE_sL_ne {cA ad : Nat → Nat} {σ : MS} {k s j : Nat} {v : BitVec 64} (h : j ≠ k) : mE cA ad (sL σ k s v) j = mE cA ad σ j := mE_congr rfl (fun _ => rfl) (fun i => u2_ne _ _ (fun q => h q.1)) (fun _ => rfl) (fun _ _ _ _ _ => rfl)
theorem mE_sR_ne {cA ad : Nat → Nat} {σ : MS} {k s j : Nat} {v : Option Nat} (h : j ≠ k) : mE cA ad (sR σ k s v) j = mE cA ad σ j := mE_congr rfl (fun _ => rfl) (fun _ => rfl) (fun i => by show (u2 σ.2.2.1 k s v j i).map ad = _; rw [u2_ne _ _ (fun q => h q.1)]; rfl) (fun _ _ _ _ _ => rfl)
theorem lset_range {α : Type} {n s : Nat} {f g : Nat → α} (hg : ∀ j, j ≠ s → g j = f j) : ((List.range n).map f).set s (g s) = (List.range n).map g := by
  apply List.ext_getElem?
  intro j
  by_cases hj : j < n
  · by_cases e : j = s
    · subst e
      rw [List.getElem?_set_self (by simpa using hj), List.getElem?_map, List.getElem?_range hj]
      rfl
    · rw [List.getElem?_set_ne (fun q => e q.symm), List.getElem?_map, List.getElem?_map, List.getElem?_range hj]
      show some (f j) = some (g j)
      rw [hg j e]
  · rw [List.getElem?_eq_none (by simp; omega), List.getElem?_eq_none (by simp; omega)]
theorem mE_obj {cA ad : Nat → Nat} {σ : MS} {k c : Nat} (h : (kd σ k).1 = 20 + c) : mE cA ad σ k = .inr (c, (List.range (clN c)).map (rF ad σ c k)) := by
  unfold mE
  rw [if_pos (by omega), h, Nat.add_sub_cancel_left]
theorem rF_sI_ne {ad : Nat → Nat} {σ : MS} {c k s j : Nat} {v : Int} (h : j ≠ s) : rF ad (sI σ k s v) c k j = rF ad σ c k j := by
  unfold rF
  rw [show gI (sI σ k s v) k j = gI σ k j from u2_ne _ _ (fun q => h q.2)]
  rfl
theorem rF_sL_ne {ad : Nat → Nat} {σ : MS} {c k s j : Nat} {v : BitVec 64} (h : j ≠ s) : rF ad (sL σ k s v) c k j = rF ad σ c k j := by
  unfold rF
  rw [show gL (sL σ k s v) k j = gL σ k j from u2_ne _ _ (fun q => h q.2)]
  rfl
theorem rF_sR_ne {ad : Nat → Nat} {σ : MS} {c k s j : Nat} {v : Option Nat} (h : j ≠ s) : rF ad (sR σ k s v) c k j = rF ad σ c k j := by
  unfold rF
  rw [show gR (sR σ k s v) k j = gR σ k j from u2_ne _ _ (fun q => h q.2)]
  rfl
theorem mE_put_i {cA ad : Nat → Nat} {σ : MS} {k c s : Nat} {v : Int} (h : (kd σ k).1 = 20 + c) (hf : fkK c s = 0 ∨ fkK c s = 4) : mE cA ad (sI σ k s v) k = .inr (c, ((List.range (clN c)).map (rF ad σ c k)).set s (.int (rI v))) := by
  rw [mE_obj (by rw [kd_sI]; exact h), ← lset_range (f := rF ad σ c k) (s := s) (fun j hj => rF_sI_ne hj)]
  congr 3
  unfold rF
  rw [show gI (sI σ k s v) k s = v from u2_self _ _ _ _]
  rcases hf with e | e <;> rw [e] <;> rfl
theorem mE_put_l {cA ad : Nat → Nat} {σ : MS} {k c s : Nat} {v : BitVec 64} (h : (kd σ k).1 = 20 + c) (hf : fkK c s = 1) : mE cA ad (sL σ k s v) k = .inr (c, ((List.range (clN c)).map (rF ad σ c k)).set s (.long (rJ v))) := by
  rw [mE_obj (by rw [kd_sL]; exact h), ← lset_range (f := rF ad σ c k) (s := s) (fun j hj => rF_sL_ne hj)]
  congr 3
  unfold rF
  rw [show gL (sL σ k s v) k s = v from u2_self _ _ _ _, hf]
  rfl
theorem mE_put_r {cA ad : Nat → Nat} {σ : MS} {k c s : Nat} {v : Option Nat} (h : (kd σ k).1 = 20 + c) (hf : fkK c s = 2 ∨ fkK c s = 5 ∨ fkK c s = 6) : mE cA ad (sR σ k s v) k = .inr (c, ((List.range (clN c)).map (rF ad σ c k)).set s (va_rf (v.map ad))) := by
  rw [mE_obj (by rw [kd_sR]; exact h), ← lset_range (f := rF ad σ c k) (s := s) (fun j hj => rF_sR_ne hj)]
  congr 3
  unfold rF
  rw [show gR (sR σ k s v) k s = v from u2_self _ _ _ _]
  rcases hf with e | e | e <;> rw [e] <;> rfl
theorem mE_ints {cA ad : Nat → Nat} {σ : MS} {k ty : Nat} (h : (kd σ k).1 = ty) (h3 : ty ≤ 3) : mE cA ad σ k = .inl (cA ty, (kd σ k).2, .inl fun i => rI (gI σ k i)) := by
  unfold mE
  rw [if_neg (by omega), if_neg (by omega), if_neg (by omega), h]
theorem mE_longs {cA ad : Nat → Nat} {σ : MS} {k : Nat} (h : (kd σ k).1 = 4) : mE cA ad σ k = .inl (cA 4, (kd σ k).2, .inr (.inl fun i => rJ (gL σ k i))) := by
  unfold mE
  rw [if_neg (by omega), if_pos h, h]
theorem mE_refs {cA ad : Nat → Nat} {σ : MS} {k ty : Nat} (h : (kd σ k).1 = ty) (h5 : 5 ≤ ty) (h7 : ty ≤ 7) : mE cA ad σ k = .inl (cA ty, (kd σ k).2, .inr (.inr (.inr (.inr fun i => (gR σ k i).map ad)))) := by
  unfold mE
  rw [if_neg (by omega), if_neg (by omega), if_pos (by omega), h]
theorem mE_ist {cA ad : Nat → Nat} {σ : MS} {k ty i : Nat} {v : Int} (h : (kd σ k).1 = ty) (h3 : ty ≤ 3) : mE cA ad (sI σ k i v) k = .inl (cA ty, (kd σ k).2, .inl (upd (fun i => rI (gI σ k i)) i (rI v))) := by
  rw [mE_ints (by rw [kd_sI]; exact h) h3, kd_sI]
  congr 4
  funext j
  unfold upd
  by_cases e : j = i
  · subst e
    rw [if_pos rfl, show gI (sI σ k j v) k j = v from u2_self _ _ _ _]
  · rw [if_neg e, show gI (sI σ k i v) k j = gI σ k j from u2_ne _ _ (fun q => e q.2)]
theorem mE_lst {cA ad : Nat → Nat} {σ : MS} {k i : Nat} {v : BitVec 64} (h : (kd σ k).1 = 4) : mE cA ad (sL σ k i v) k = .inl (cA 4, (kd σ k).2, .inr (.inl (vp_updL (fun i => rJ (gL σ k i)) i (rJ v)))) := by
  rw [mE_longs (by rw [kd_sL]; exact h), kd_sL]
  congr 5
  funext j
  unfold vp_updL
  by_cases e : j = i
  · subst e
    rw [if_pos rfl, show gL (sL σ k j v) k j = v from u2_self _ _ _ _]
  · rw [if_neg e, show gL (sL σ k i v) k j = gL σ k j from u2_ne _ _ (fun q => e q.2)]
theorem mE_rst {cA ad : Nat → Nat} {σ : MS} {k ty i : Nat} {v : Option Nat} (h : (kd σ k).1 = ty) (h5 : 5 ≤ ty) (h7 : ty ≤ 7) : mE cA ad (sR σ k i v) k = .inl (cA ty, (kd σ k).2, .inr (.inr (.inr (.inr (va_up (fun i => (gR σ k i).map ad) i (v.map ad)))))) := by
  rw [mE_refs (by rw [kd_sR]; exact h) h5 h7, kd_sR]
  congr 7
  funext j
  unfold va_up
  by_cases e : j = i
  · subst e
    rw [if_pos rfl, show gR (sR σ k j v) k j = v from u2_self _ _ _ _]
  · rw [if_neg e, show gR (sR σ k i v) k j = gR σ k j from u2_ne _ _ (fun q => e q.2)]
/-- the store is sound: numbers in range, references to cells that are there -/
def mOk (σ : MS) : Prop := fxN ≤ nC σ ∧ nC σ < scrK ∧ (∀ k s, inR (gI σ k s)) ∧ (∀ k s j, gR σ k s = some j → j < nC σ) ∧ (∀ k, nC σ ≤ k → (σ.2.2.2.2.1 k).1 = 0) ∧ (∀ k i, (kd σ k).1 = 1 → -128 ≤ gI σ k i ∧ gI σ k i < 128) ∧ (∀ k, (kd σ k).1 = 28 → k + 3 < nC σ) ∧ (∀ k, (kd σ k).2 < 2147483648) ∧ ∀ k, (σ.2.2.2.2.1 k).1 ≠ 8 ∧ (σ.2.2.2.2.1 k).1 ≠ 9 ∧ (σ.2.2.2.2.1 k).1 ≠ 50
def vOk (σ : MS) : MV → Prop
  | .inl x => inR x
  | .inr (.inl _) => True
  | .inr (.inr o) => ∀ j, o = some j → j < nC σ ∨ scrK ≤ j
theorem kd_lt {σ : MS} (h : mOk σ) {k : Nat} (h0 : (kd σ k).1 ≠ 0 ∧ (kd σ k).1 ≠ 9 ∧ (kd σ k).1 ≠ 50 ∧ (kd σ k).1 ≠ 8) : k < nC σ := by
  by_cases hk : nC σ ≤ k
  · exfalso
    have h1 := h.1
    have h5 := h.2.2.2.2.1 k hk
    unfold kd at h0
    rw [if_neg (by omega)] at h0
    by_cases c2 : k = scrK
    · rw [if_pos c2] at h0; exact h0.2.1 rfl
    · rw [if_neg c2] at h0
      by_cases c3 : strK ≤ k ∧ k < strK + stN
      · rw [if_pos c3] at h0; exact h0.2.2.1 rfl
      · rw [if_neg c3] at h0
        by_cases c4 : strB ≤ k ∧ k < strB + stN
        · rw [if_pos c4] at h0; exact h0.2.2.2 rfl
        · rw [if_neg c4] at h0; exact h0.1 h5
  · omega
theorem fx_all : fxL.all (fun q => decide (q.1 ≠ 8 ∧ q.1 ≠ 9 ∧ q.1 ≠ 50)) = true := by decide +kernel
theorem fx_no (k : Nat) : (fxL.getD k (0, 0)).1 ≠ 8 ∧ (fxL.getD k (0, 0)).1 ≠ 9 ∧ (fxL.getD k (0, 0)).1 ≠ 50 := by
  rw [List.getD_eq_getElem?_getD]
  cases h : fxL[k]? with
  | none => decide
  | some q => exact of_decide_eq_true (List.all_eq_true.mp fx_all q (List.mem_of_getElem? h))
theorem kd_8 {σ : MS} (h : mOk σ) {k : Nat} (e : (kd σ k).1 = 8) : ∃ j, j < stN ∧ k = strB + j ∧ (kd σ k).2 = (strAt j).length := by
  have hx := fx_no k
  have hm := h.2.2.2.2.2.2.2.2 k
  unfold kd at e ⊢
  by_cases c1 : k < fxN
  · rw [if_pos c1] at e; exact absurd e hx.1
  · rw [if_neg c1] at e ⊢
    by_cases c2 : k = scrK
    · rw [if_pos c2] at e; exact absurd (show (9 : Nat) = 8 from e) (by decide)
    · rw [if_neg c2] at e ⊢
      by_cases c3 : strK ≤ k ∧ k < strK + stN
      · rw [if_pos c3] at e; exact absurd (show (50 : Nat) = 8 from e) (by decide)
      · rw [if_neg c3] at e ⊢
        by_cases c4 : strB ≤ k ∧ k < strB + stN
        · rw [if_pos c4]
          obtain ⟨j, hj⟩ : ∃ j, j = k - strB := ⟨_, rfl⟩
          rw [← hj]
          exact ⟨j, by omega, by omega, rfl⟩
        · rw [if_neg c4] at e; exact absurd e hm.1
theorem kd_50 {σ : MS} (h : mOk σ) {k : Nat} (e : (kd σ k).1 = 50) : ∃ j, j < stN ∧ k = strK + j := by
  have hx := fx_no k
  have hm := h.2.2.2.2.2.2.2.2 k
  unfold kd at e
  by_cases c1 : k < fxN
  · rw [if_pos c1] at e; exact absurd e hx.2.2
  · rw [if_neg c1] at e
    by_cases c2 : k = scrK
    · rw [if_pos c2] at e; exact absurd (show (9 : Nat) = 50 from e) (by decide)
    · rw [if_neg c2] at e
      by_cases c3 : strK ≤ k ∧ k < strK + stN
      · exact ⟨k - strK, by omega, by omega⟩
      · rw [if_neg c3] at e
        by_cases c4 : strB ≤ k ∧ k < strB + stN
        · rw [if_pos c4] at e; exact absurd (show (8 : Nat) = 50 from e) (by decide)
        · rw [if_neg c4] at e; exact absurd e hm.2.2
theorem kd_9 {σ : MS} (h : mOk σ) {k : Nat} (e : (kd σ k).1 = 9) : k = scrK ∧ (kd σ k).2 = σ.2.2.2.2.2.1 := by
  have hx := fx_no k
  have hm := h.2.2.2.2.2.2.2.2 k
  unfold kd at e ⊢
  by_cases c1 : k < fxN
  · rw [if_pos c1] at e; exact absurd e hx.2.1
  · rw [if_neg c1] at e ⊢
    by_cases c2 : k = scrK
    · rw [if_pos c2]; exact ⟨c2, rfl⟩
    · rw [if_neg c2] at e
      by_cases c3 : strK ≤ k ∧ k < strK + stN
      · rw [if_pos c3] at e; exact absurd (show (50 : Nat) = 9 from e) (by decide)
      · rw [if_neg c3] at e
        by_cases c4 : strB ≤ k ∧ k < strB + stN
        · rw [if_pos c4] at e; exact absurd (show (8 : Nat) = 9 from e) (by decide)
        · rw [if_neg c4] at e; exact absurd e hm.2.1
theorem mOk_sI {σ : MS} {k s : Nat} {v : Int} (h : mOk σ) (hv : inR v) (h8 : (kd σ k).1 = 1 → -128 ≤ v ∧ v < 128) : mOk (sI σ k s v) := by
  obtain ⟨h1, h2, h3, h4, h5, h6, h7⟩ := h
  refine ⟨h1, h2, fun a b => ?_, h4, h5, fun a b ha => ?_, h7⟩
  · show inR (u2 σ.1 k s v a b)
    unfold u2
    split
    · exact hv
    · exact h3 a b
  · show -128 ≤ u2 σ.1 k s v a b ∧ u2 σ.1 k s v a b < 128
    unfold u2
    split
    · rename_i e
      rw [e.1] at ha
      exact h8 ha
    · exact h6 a b ha
theorem mOk_sL {σ : MS} {k s : Nat} {v : BitVec 64} (h : mOk σ) : mOk (sL σ k s v) := h
theorem mOk_sR {σ : MS} {k s : Nat} {v : Option Nat} (h : mOk σ) (hv : ∀ j, v = some j → j < nC σ) : mOk (sR σ k s v) := by
  obtain ⟨h1, h2, h3, h4, h5⟩ := h
  refine ⟨h1, h2, h3, fun a b j hj => ?_, h5⟩
  have hj : u2 σ.2.2.1 k s v a b = some j := hj
  unfold u2 at hj
  split at hj
  · exact hv j hj
  · exact h4 a b j hj
theorem clN_lt {c s : Nat} (h : s < clN c) : c < 12 := by
  by_cases hc : c < 12
  · exact hc
  · exfalso
    have : clN c = 0 := by
      unfold clN
      rw [List.getD_eq_getElem?_getD, List.getElem?_eq_none (by show 12 ≤ c; omega)]
      rfl
    omega
theorem mW_push {cA ad ad' : Nat → Nat} {σ σ' : MS} (hn : nC σ' = nC σ + 1) (ha : ∀ j, j < nC σ → ad' j = ad j) (ho : ∀ j, j < nC σ → mE cA ad' σ' j = mE cA ad σ j) : mW cA ad' σ' = mW cA ad σ ++ [(ad' (nC σ), mE cA ad' σ' (nC σ))] := by
  unfold mW
  rw [hn, List.range_succ, List.map_append]
  congr 1
  apply List.map_congr_left
  intro j hj
  have hj := List.mem_range.mp hj
  rw [ha j hj, ho j hj]
