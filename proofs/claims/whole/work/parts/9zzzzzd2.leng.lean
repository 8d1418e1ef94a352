/-! ===== records' lengths are never negative ===== -/
def K8 (w : WR) : Prop := (∀ s, 0 ≤ wg w 150 s) ∧ (∀ s, 0 ≤ wg w 108 s) ∧ ∀ s, wg w 106 s < 8
section LENG
variable {c c' : TC WR} {W V U : WR} {w w2 x A a F v : B64} {r f b k n o s m e N : Nat} {y nx hh i : Int} {E : EV} {l key val : List Int} {S : Nat → Nat → MB} {u : SV} {G : Int → Prop} {p : Int → B64}
theorem k8_q (h : K8 W) (e : ∀ k s, k = 150 ∨ k = 108 ∨ k = 106 → wg V k s = wg W k s) : K8 V := ⟨fun s => by rw [e _ _ (by omega)]; exact h.1 s, fun s => by rw [e _ _ (by omega)]; exact h.2.1 s, fun s => by rw [e _ _ (by omega)]; exact h.2.2 s⟩
theorem k8_s (h : K8 W) (hk : ¬ (k = 150 ∨ k = 108 ∨ k = 106)) : K8 (wset W k s y) := k8_q h fun k' s' z => by rw [wg_wset, if_neg (by omega)]
theorem k8_l (h : K8 W) (hk : ¬ (k = 150 ∨ k = 108 ∨ k = 106)) : K8 (wsL W k s l) := k8_q h fun k' s' z => wg_wsL_o (by omega)
theorem k8_ch {z z2 : B64} (h : K8 W) : K8 (W.1, z, z2) := h
theorem k8_80 (h : K8 W) : K8 (wset W 80 s y) := k8_s h (by omega)
theorem k8_upd (h : K8 W) : K8 (updR W m key val y).1 := k8_q h fun k' s' z => upR_o (by omega)
theorem k8_rem (h : K8 W) : K8 (remR W m key y).1 := k8_q h fun k' s' z => reR_o (by omega)
theorem k8_tra : ∀ (l : List Int) (W : WR), K8 W → K8 (traR W l) := by
  intro l
  induction l with
  | nil => intro W h; exact h
  | cons b l ih =>
    intro W h
    unfold traR
    refine ih _ ?_
    split
    · exact k8_s (k8_s h (by omega)) (by omega)
    · exact h
theorem k8_tri (h : K8 W) : K8 (triR W x).1 := by
  unfold triR
  dsimp only
  split
  · exact h
  · refine k8_s (k8_q h fun k' s' z => ?_) (by omega)
    exact if_neg (by omega)
theorem k8_tai {V : WR} (h : K8 W) (e : taiR W m x = some V) : K8 V := by
  unfold taiR at e
  split at e
  · cases e
  · split at e
    · cases e
    · have e := Option.some.inj e
      rw [← e]
      exact k8_s (k8_s h (by omega)) (by omega)
theorem k8_rec {m : Int} (h : K8 W) (hy : 1 ≤ y ∧ y ≤ 64) : K8 (recR W m y).1 := by
  unfold recR
  split
  · exact h
  · split
    · exact h
    · refine k8_l ⟨fun s => ?_, fun s => ?_, fun s => ?_⟩ (by omega)
      · rw [wg_wset]
        split
        · omega
        · rw [wg_wset, if_neg (by omega), wg_wset, if_neg (by omega)]
          exact h.1 s
      · rw [wg_wset, if_neg (by omega), wg_wset, if_neg (by omega), wg_wset, if_neg (by omega)]
        exact h.2.1 s
      · rw [wg_wset, if_neg (by omega), wg_wset, if_neg (by omega), wg_wset, if_neg (by omega)]
        exact h.2.2 s
theorem k8_giv {i : Nat} {fl : Bool} (h : K8 W) : K8 (givR W i fl) := by
  have h0 : K8 (wset W 152 i 0) := k8_s h (by omega)
  unfold givR
  dsimp only
  split
  · exact h0
  · refine k8_s (k8_l ⟨fun s => ?_, fun s => ?_, fun s => ?_⟩ (by omega)) (by omega)
    · rw [wg_wset, if_neg (by omega)]
      exact h0.1 s
    · rw [wg_wset]
      split
      · exact h.1 i
      · exact h0.2.1 s
    · rw [wg_wset, if_neg (by omega)]
      exact h0.2.2 s
theorem k8_B (h : K8 W) : K8 (RB.2.2.1 W o b v) := by
  show K8 (if o ≤ 271 then wset W 100 _ (kpW v) else if o = 280 then wset W 144 _ (kpW v) else wset W 149 _ (kpW v))
  split
  · exact k8_s h (by omega)
  · split
    · exact k8_s h (by omega)
    · exact k8_s h (by omega)
theorem hp_k8 (h : K8 (cW c)) (e : hpT RB RH E c hh nx = some (k, c')) : K8 (cW c') := by
  unfold hpT at e
  by_cases q1 : hh = 1 ∨ hh = 2 ∨ hh = 3
  · rw [if_pos q1] at e
    by_cases mp : isMap (rdR c 1)
    · rw [if_neg (not_not_intro mp)] at e
      have hm : (mapT (rdR c 1)).toNat < 8 := by
        have : 8 ≤ (rdR c 1).1 ∧ (rdR c 1).1 ≤ 15 := mp
        show (((rdR c 1).1 : Int) - 8).toNat < 8
        omega
      split at e
      · cases e
      · split at e
        · split at e
          · rw [bh_W e]; exact h
          · rw [bh_W e]; exact h
        · split at e
          · rw [bh_W e]; exact k8_rem h
          · split at e
            · cases e
            · split at e
              · cases e
              · rw [bh_W e]; exact k8_upd h
    · rw [if_pos mp] at e
      cases e
  · rw [if_neg q1] at e
    split at e
    · rw [bh_W e]; exact h
    · split at e
      · split at e
        · cases e
        · split at e
          · cases e
          · rw [bh_W e]; exact k8_tra _ _ h
      · split at e
        · rw [bh_W e]
          have q : (RH.2.2.2.2.2.2.2.1 (cW c)).1 = ((cW c).1, chaX (cW c).2.1, (cW c).2.2) := rfl
          rw [q]
          exact k8_ch h
        · split at e
          · split at e
            · cases e
            · split at e
              · rename_i v hv
                cases e
                exact k8_tai h (show taiR (cW c) (mapT (rdR c 2)).toNat (rdR c 3).2 = some v from hv)
              · rw [bh_W e]; exact h
          · split at e
            · split at e
              · cases e
              · split at e
                · cases e
                · rw [bh_W e]; exact h
            · split at e
              · split at e
                · cases e
                · rw [bh_W e]; exact k8_tri h
              · split at e
                · split at e
                  · cases e
                  · rename_i q
                    rw [bh_W e]
                    have mp : isMap (rdR c 1) := Decidable.byContradiction fun z => q (Or.inl z)
                    have mp' : 8 ≤ (rdR c 1).1 ∧ (rdR c 1).1 ≤ 15 := mp
                    have z2 := Decidable.byContradiction fun z => q (Or.inr z)
                    have em : mapT (rdR c 1) = (((rdR c 1).1 - 8 : Nat) : Int) := by
                      show ((rdR c 1).1 : Int) - 8 = _
                      omega
                    rw [em]
                    exact k8_rec h z2.2
                · split at e
                  · split at e
                    · cases e
                    · rename_i q
                      rw [bh_W e]
                      have z1 := Decidable.byContradiction fun z => q (Or.inl z)
                      have zh := Decidable.byContradiction fun z => q (Or.inr z)
                      exact k8_giv h
                  · cases e
theorem wrB_k8 {c c' : TC WR} (hI : K8 (cW c)) (h : wrB RB c o b v = some c') : K8 (cW c') := by
  unfold wrB at h
  split at h
  · split at h
    · cases h; exact hI
    · cases h
  · split at h
    · split at h
      · cases h; exact k8_B hI
      · cases h
    · split at h
      · split at h
        · cases h; exact k8_B hI
        · cases h
      · split at h
        · split at h
          · cases h; exact k8_B hI
          · cases h
        · cases h
theorem wrL_k8 : ∀ (l : List B64) {b : Nat} {c c' : TC WR}, K8 (cW c) → wrL RB c o b l = some c' → K8 (cW c') := by
  intro l
  induction l with
  | nil => intro b c c' hI h; cases h; exact hI
  | cons v l ih =>
    intro b c c' hI h
    unfold wrL at h
    split at h
    · rename_i c1 h1
      exact ih (wrB_k8 hI h1) h
    · cases h
theorem stoT_k8 (hI : K8 (cW c)) (h : stoT RB RH c w = some c') : K8 (cW c') := by
  unfold stoT at h
  dsimp only at h
  generalize (if fL w = 3 then rdR c (sRr w) else ((0, BitVec.ofInt 64 (fI w)) : SV)) = v at h
  split at h
  · split at h
    · cases h; exact k8_80 hI
    · cases h
  · split at h
    · exact wrL_k8 _ hI h
    · split at h
      · cases h; exact hI
      · cases h
theorem swT_k8 (hI : K8 (cW c)) (h : swT RB c w = some c') : K8 (cW c') := by
  unfold swT at h
  split at h
  · cases h
  · split at h
    · cases h
    · split at h
      · split at h
        · cases h
        · split at h
          · rename_i c1 h1
            cases h
            show K8 (cW c1)
            split at h1
            · exact wrL_k8 _ hI h1
            · cases h1; exact hI
          · cases h
      · split at h
        · rename_i c1 h1
          cases h
          have z := wrL_k8 _ hI h1
          split
          · exact z
          · exact z
        · cases h
theorem stp_k8 (hI : K8 (cW c)) (e : stpT RB RH E c w w2 = some (k, c')) : K8 (cW c') := by
  unfold stpT at e
  split at e
  · split at e
    · cases e; exact hI
    · cases e; exact hI
  · split at e
    · split at e
      · cases e; exact hI
      · cases e
    · split at e
      · split at e
        · cases e; exact hI
        · split at e
          · unfold exT at e
            split at e
            · cases e
            · split at e
              · cases e; exact hI
              · cases e; exact hI
          · split at e
            · split at e
              · split at e
                · cases e
                · cases e; exact hI
              · exact hp_k8 hI (hpG_T e).1
            · split at e
              · cases e; exact hI
              · cases e
      · split at e
        · split at e
          · cases e; exact hI
          · cases e
        · split at e
          · split at e
            · rename_i c1 h1
              cases e
              show K8 (cW c1)
              exact swT_k8 hI h1
            · cases e
          · split at e
            · rename_i c1 h1
              cases e
              show K8 (cW c1)
              exact stoT_k8 hI h1
            · cases e
theorem rn_k8 {pr : Int → Int → B64} : ∀ (n : Nat) (s : Int) (c r : TC WR), K8 (cW c) → rnT RB RH E RT pr sloW n s c = some r → K8 (cW r) := by
  intro n
  induction n with
  | zero => intro s c r _ e; cases e
  | succ n ih =>
    intro s c r hI e
    unfold rnT at e
    cases es : stp1 RB RH E (pr s) RT c with
    | none =>
      rw [es] at e
      cases e
    | some q =>
      obtain ⟨k, c'⟩ := q
      rw [es] at e
      have k8 : K8 (cW c') := stp_k8 (c := (cP c, cN c, cR c, cS c, cB c, RT (cW c))) hI (show stpT RB RH E (cP c, cN c, cR c, cS c, cB c, RT (cW c)) _ _ = some (k, c') from es)
      cases k with
      | zero => exact ih s c' r k8 e
      | succ k =>
        cases k with
        | zero =>
          have e : some c' = some r := e
          cases e
          exact k8
        | succ k => exact ih _ (st0 (cW c')) r k8 e
theorem k8_bg {s : Int} (h : K8 W) : K8 (bgW W s) := k8_q h fun k t z => by
  show (if k = 152 ∧ t < 64 then 0 else if k = 80 ∧ t = 110 then 0 else if k = 80 ∧ t = 122 then s else W.1 k t) = _
  rw [if_neg (by omega), if_neg (by omega), if_neg (by omega)]
theorem k8_ed (h : K8 W) : K8 (edW W) := k8_q h fun k t z => by
  show (if k = 104 ∧ t < 256 then (if ¬ W.1 105 t = 0 then 0 else W.1 104 t % 2) else if k = 105 ∧ t < 256 then 0 else W.1 k t) = _
  rw [if_neg (by omega), if_neg (by omega)]
theorem k8_nex (h : K8 W) : K8 (nexW W m N) := ⟨fun s => by rw [nxW, if_neg (by omega), if_neg (by omega), if_neg (by omega)]; exact h.1 s, fun s => by
  rw [nxW, if_neg (by omega)]
  split
  · exact h.2.1 _
  · rw [if_neg (by omega)]
    exact h.2.1 s, fun s => by rw [nxW, if_neg (by omega), if_neg (by omega), if_neg (by omega)]; exact h.2.2 s⟩
theorem k8_tel {kd1 key value most : Int} (h : K8 W) : K8 (telW W m kd1 key value most) := ⟨fun s => by rw [tlW_o (by omega)]; exact h.1 s, fun s => by rw [tlW_o (by omega)]; exact h.2.1 s, fun s => by
  by_cases c : 16 * m ≤ s ∧ s < 16 * m + 16
  · rw [tlW, if_pos ⟨rfl, c⟩]
    decide
  · rw [tlW_o (by omega)]
    exact h.2.2 s⟩
theorem k8_lnk (h : K8 W) (hy : y < 8) : K8 (wset W 106 s y) := ⟨fun s => by rw [wg_wset, if_neg (by omega)]; exact h.1 s, fun s => by rw [wg_wset, if_neg (by omega)]; exact h.2.1 s, fun s => by
  rw [wg_wset]
  split
  · exact hy
  · exact h.2.2 s⟩
end LENG
