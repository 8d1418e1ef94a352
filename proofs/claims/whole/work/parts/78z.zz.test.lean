-- FILE 78a.xs
/-! ===== what else is always so of a STATE: UNSET registers have nothing; TAGs of cells are not held ===== -/
def xP (H : List Int) (v : VL) : Prop := (vk v = 6 → ¬ vt v ∈ H) ∧ (vk v = 2 ∨ vk v = 7 ∨ vk v = 8 → vw v = 0) ∧ (vk v = 2 ∨ vk v = 3 ∨ vk v = 4 ∨ vk v = 5 ∨ vk v = 8 → vt v = 0)
def xV (H : List Int) (v : VL) : Prop := xP H v ∧ (vk v = 0 → vr v = 0)
def xS (S : ST) : Prop := (∀ k : Nat, k < 26 * sF S → xP (sH S) (sV S k)) ∧ ∀ k : Nat, k < 26 * sF S → k % 26 < 10 → vk (sV S k) = 0 → vr (sV S k) = 0
section XS
variable {E : EV} {S : ST} {t : Int} {H : List Int} {v : VL} {r : Nat}
theorem xP_1 (h : vk v = 1 ∨ vk v = 0) : xP H v := ⟨fun e => by omega, fun e => by omega, fun e => by omega⟩
theorem xV_num {n : N6} : xV H (numV n) := ⟨xP_1 (Or.inl rfl), fun e => absurd (show (1 : Int) = 0 from e) (by decide)⟩
theorem xV_mk {k w t : Int} (h : ¬ k = 6) (hw : k = 2 ∨ k = 7 ∨ k = 8 → w = 0) (ht : k = 2 ∨ k = 3 ∨ k = 4 ∨ k = 5 ∨ k = 8 → t = 0) : xV H (mkV k w t) := ⟨⟨fun e => absurd e h, hw, ht⟩, fun _ => rfl⟩
theorem xV_uns : xV H unsV := xV_mk (by omega) (by omega) (by omega)
theorem x_w (h : xS S) (hF : 1 ≤ sF S) (hr : r < 10) (hv : xV (sH S) v) : xS (wV S r v) := by
  refine ⟨fun k hk => ?_, fun k hk k1 => ?_⟩
  · show xP (sH S) (if k = 26 * (sF S - 1) + r then v else sV S k)
    split
    · exact hv.1
    · exact h.1 k hk
  · show vk (if k = 26 * (sF S - 1) + r then v else sV S k) = 0 → vr (if k = 26 * (sF S - 1) + r then v else sV S k) = 0
    split
    · exact hv.2
    · exact h.2 k hk k1
theorem x_r (h : xS S) (hF : 1 ≤ sF S) (hr : r ≤ 10) : xV (sH S) (rgV S r) := by
  unfold rgV
  split
  · exact xV_mk (by omega) (by omega) (by omega)
  · exact ⟨h.1 _ (by omega), h.2 _ (by omega) (by omega)⟩
theorem x_all (h : xS S) {g : VL → VL} (hg : ∀ v, xP (sH S) v → xP (sH S) (g v)) (h0 : ∀ v, (vk v = 0 → vr v = 0) → vk (g v) = 0 → vr (g v) = 0) : xS (allV S g) := by
  refine ⟨fun k hk => ?_, fun k hk k1 => ?_⟩
  · have hk : k < 26 * sF S := hk
    show xP (sH S) (if k < 26 * sF S then g (sV S k) else sV S k)
    rw [if_pos hk]
    exact hg _ (h.1 k hk)
  · have hk : k < 26 * sF S := hk
    show vk (if k < 26 * sF S then g (sV S k) else sV S k) = 0 → vr (if k < 26 * sF S then g (sV S k) else sV S k) = 0
    rw [if_pos hk]
    exact h0 _ (h.2 k hk k1)
theorem x_put {f b n k : Nat} (h : xS S) (hb : b + n ≤ 128) : xS (putB S f b n k) := by
  refine ⟨fun j hj => ?_, fun j hj j1 => ?_⟩
  · have hj : j < 26 * sF S := hj
    show xP (sH S) (sV (putB S f b n k) j)
    rw [put_v]
    split
    · exact xP_1 (Or.inr (unp_k (sV S j)))
    · exact h.1 j hj
  · have hj : j < 26 * sF S := hj
    rw [put_v, if_neg (by omega)]
    exact h.2 j hj j1
theorem x_rel (h : xS S) : xS (relH S t) := ⟨fun k hk => ⟨fun e z => (h.1 k hk).1 e (List.mem_filter.mp z).1, (h.1 k hk).2⟩, h.2⟩
theorem x_becZ (h : xS S) {T k : Int} : xS (becZ S T k) := by
  have a : xS (allV S (zerV T)) := x_all h (fun v hv => by
    unfold zerV
    split
    · exact xV_num.1
    · exact hv) (fun v hv => by
    unfold zerV
    split
    · exact (xV_num (H := [])).2
    · exact hv)
  unfold becZ
  split
  · exact x_rel a
  · exact a
theorem x_plc (h : xS S) {T : Int} : xS (allV S (plcV T)) := by
  have e : ∀ (v : VL) (H : List Int) (a b : Int), xV H (mkV (if vk v = 6 then 5 else 9) a (if vk v = 6 then 0 else b)) ∧ ¬ vk (mkV (if vk v = 6 then 5 else 9) a (if vk v = 6 then 0 else b)) = 0 := fun v H a b => by
    by_cases z : vk v = 6
    · rw [if_pos z, if_pos z]
      exact ⟨xV_mk (by omega) (by omega) (by omega), by show ¬ (5 : Int) = 0; decide⟩
    · rw [if_neg z, if_neg z]
      exact ⟨xV_mk (by omega) (by omega) (by omega), by show ¬ (9 : Int) = 0; decide⟩
  exact x_all h (fun v hv => by
    unfold plcV
    split
    · exact (e v _ _ _).1.1
    · exact hv) (fun v hv => by
    unfold plcV
    split
    · exact fun z => absurd z (e v [] _ _).2
    · exact hv)
theorem x_rch (h : xS S) {T n : Int} : xS (allV S (rchV T n)) := by
  refine x_all h (fun v hv => ?_) (fun v hv => ?_)
  · unfold rchV
    split
    · rename_i c
      exact hv
    · exact hv
  · unfold rchV
    split
    · rename_i c
      exact fun z => absurd (c.1.symm.trans z) (by decide)
    · exact hv
theorem x_unsA (h : xS S) : xS (unsA S) := by
  refine ⟨fun k hk => ?_, fun k hk k1 => ?_⟩
  · show xP (sH S) (if 26 * (sF S - 1) + 1 ≤ k ∧ k ≤ 26 * (sF S - 1) + 5 then unsV else sV S k)
    split
    · exact (xV_mk (by omega) (by omega) (by omega)).1
    · exact h.1 k hk
  · show vk (if 26 * (sF S - 1) + 1 ≤ k ∧ k ≤ 26 * (sF S - 1) + 5 then unsV else sV S k) = 0 → vr (if 26 * (sF S - 1) + 1 ≤ k ∧ k ≤ 26 * (sF S - 1) + 5 then unsV else sV S k) = 0
    split
    · exact fun _ => rfl
    · exact h.2 k hk k1
theorem x_shf {p : VL} {n : N6} {c t : Int} (hm : mvs p) (hp : xV H p) : xV H (shfV p n c t).2.1 := by
  have km : ¬ vk p = 0 ∧ ¬ vk p = 6 := by rcases hm with k | k | k | k <;> omega
  obtain ⟨⟨-, p2, p3⟩, -⟩ := hp
  have hp : xV H p := ⟨⟨fun e => absurd e km.2, p2, p3⟩, fun e => absurd e km.1⟩
  have z : ∀ v : VL, vk v = vk p → vw v = vw p → (vt v = vt p ∨ vk p = 7) → xV H v := fun v e1 e2 e3 => ⟨⟨fun q => by omega, fun q => by rw [e2]; exact p2 (by omega), fun q => by
    rcases e3 with e3 | e3
    · rw [e3]; exact p3 (by omega)
    · omega⟩, fun q => by omega⟩
  unfold shfV
  split
  · generalize (if c = 0 then jV n else - jV n) = d
    split <;> exact z _ rfl rfl (Or.inl rfl)
  · split
    · exact hp
    · split
      · exact hp
      · split
        · rename_i k7
          exact z _ rfl rfl (Or.inr k7)
        · exact z _ rfl rfl (Or.inl rfl)
theorem x_rgt (h : xS S) (hF : 1 ≤ sF S) {w : B64} (hr : rgt w → fS w ≤ 10) : xV (sH S) (rgtV S w) := by
  unfold rgtV
  split
  · rename_i r
    exact x_r h hF (sR_10 (hr r))
  · exact xV_num
theorem x_alu (h : xS S) (hF : 1 ≤ sF S) {w : B64} (hd : fD w ≤ 9) (hr : rgt w → ¬ fC w = 208 → ¬ fC w = 128 → fS w ≤ 10) : xV (sH S) (aluV S w t).2.1 := by
  have hx := x_r h hF (r := dR w) (Nat.le_of_lt (dR_9 hd))
  have u : xV (sH S) unsV := xV_mk (by omega) (by omega) (by omega)
  unfold aluV
  split
  · split
    · exact u
    · exact xV_num
  · rename_i c1
    split
    · exact u
    · split
      · exact u
      · split
        · have hy : xV (sH S) (rgtV S w) := x_rgt h hF fun r => hr r c1 (by omega)
          unfold movV
          split
          · exact hy
          · split
            · exact hy
            · split
              · exact xV_num
              · split
                · exact xV_num
                · exact xV_num
        · split
          · split
            · exact u
            · split
              · exact xV_num
              · exact xV_num
          · rename_i c2
            have hy : xV (sH S) (rgtV S w) := x_rgt h hF fun r => hr r c1 c2
            split
            · rename_i q
              exact x_shf q.2.2.1 hx
            · split
              · rename_i q
                exact x_shf q.2.2.2 hy
              · split
                · exact u
                · split
                  · exact xV_num
                  · exact xV_num
theorem x_lod (h : xS S) (ho : okS E t S) {w : B64} (hs : fS w ≤ 10) (hf : (lodV E S w).1 = 0) : xV (sH S) (lodV E S w).2 := by
  have ox := rV_ok ho (r := sRr w) (sR_10 hs)
  revert hf
  unfold lodV
  split
  · intro hf; exfalso; have hf : (3 : Int) = 0 := hf; omega
  · split
    · split
      · intro hf; exfalso; have hf : (9 : Int) = 0 := hf; omega
      · split
        · intro _
          show xV _ (mkV (if fO w = 0 then 7 else 8) 0 0)
          exact xV_mk (by split <;> decide) (fun _ => rfl) (fun _ => rfl)
        · intro _; exact xV_num
    · split
      · rename_i q; intro hf; exact absurd hf q
      · split
        · intro hf; exfalso; have hf : (5 : Int) = 0 := hf; omega
        · rename_i c4
          split
          · rename_i c5
            intro _
            have v3 := ox.2.2.1 c5.1
            have rm : -128 ≤ vo (rgV S (sRr w)) + fO w ∧ vo (rgV S (sRr w)) + fO w ≤ -(bytN w : Int) := by
              have := Decidable.not_not.mp c4
              unfold room at this
              rwa [if_pos c5.1] at this
            have F := ho.1
            exact ⟨h.1 _ (by omega), fun z => absurd z c5.2.2⟩
          · split
            · intro hf; exfalso; have hf : (6 : Int) = 0 := hf; omega
            · split
              · intro _; exact xV_num
              · intro _; exact xV_num
theorem x_sto (h : xS S) (hF : 1 ≤ sF S) {w : B64} (hs : fL w = 3 → fS w ≤ 10) : xS (stoV E S w).2 := by
  have hv : xV (sH S) (if fL w = 3 then rgV S (sRr w) else numV (cstN (BitVec.ofInt 64 (fI w)))) := by
    split
    · rename_i e
      exact x_r h hF (sR_10 (hs e))
    · exact xV_num
  have bn := bytN_c w
  unfold stoV
  generalize (if fL w = 3 then rgV S (sRr w) else numV (cstN (BitVec.ofInt 64 (fI w)))) = V at *
  split
  · exact h
  · split
    · exact h
    · split
      · split
        · exact h
        · split <;> exact h
      · split
        · exact h
        · split
          · exact h
          · rename_i c4
            have rm : vk (rgV S (dR w)) = 3 → -128 ≤ vo (rgV S (dR w)) + fO w ∧ vo (rgV S (dR w)) + fO w ≤ -(bytN w : Int) := fun e => by
              have := Decidable.not_not.mp c4
              unfold room at this
              rwa [if_pos e] at this
            split
            · exact h
            · split
              · rename_i c6
                have rm := rm c6.1
                refine ⟨fun k hk => ?_, fun k hk k1 => ?_⟩
                · have hk : k < 26 * sF S := hk
                  show xP (sH S) (if k = 26 * (vw (rgV S (dR w))).toNat + 10 + (vo (rgV S (dR w)) + fO w + 128).toNat / 8 then V else sV S k)
                  split
                  · exact hv.1
                  · exact h.1 k hk
                · have hk : k < 26 * sF S := hk
                  show vk (if k = 26 * (vw (rgV S (dR w))).toNat + 10 + (vo (rgV S (dR w)) + fO w + 128).toNat / 8 then V else sV S k) = 0 → _
                  rw [if_neg (by omega)]
                  intro z
                  show vr (if k = 26 * (vw (rgV S (dR w))).toNat + 10 + (vo (rgV S (dR w)) + fO w + 128).toNat / 8 then V else sV S k) = 0
                  rw [if_neg (by omega)]
                  exact h.2 k hk k1 z
              · split
                · rename_i c7
                  have rm := rm c7
                  exact x_put h (by omega)
                · exact h
theorem x_swp (h : xS S) (hF : 1 ≤ sF S) {w : B64} (hs : fS w ≤ 9 ∨ ¬ fI w % 2 = 1 ∨ fI w = 241) : xS (swpV E S w).2 := by
  have bn := bytN_c w
  unfold swpV
  split
  · exact h
  · split
    · exact h
    · split
      · exact h
      · split
        · exact h
        · rename_i c4
          have a : xS (if vk (rgV S (dR w)) = 3 then putB S (vw (rgV S (dR w))).toNat (vo (rgV S (dR w)) + fO w + 128).toNat (bytN w) (bytN w) else S) := by
            split
            · rename_i c3
              have rm : -128 ≤ vo (rgV S (dR w)) + fO w ∧ vo (rgV S (dR w)) + fO w ≤ -(bytN w : Int) := by
                have := Decidable.not_not.mp c4
                unfold room at this
                rwa [if_pos c3] at this
              exact x_put h (by omega)
            · exact h
          have aF : sF (if vk (rgV S (dR w)) = 3 then putB S (vw (rgV S (dR w))).toNat (vo (rgV S (dR w)) + fO w + 128).toNat (bytN w) (bytN w) else S) = sF S := by
            split <;> rfl
          split
          · exact h
          · split
            · exact h
            · show xS (if fI w = 241 then _ else _)
              split
              · exact x_w a (by rw [aF]; exact hF) (by omega) xV_num
              · split
                · have fs := (fld_rng w).2.2.1
                  exact x_w a (by rw [aF]; exact hF) (show (fS w).toNat < 10 by omega) xV_num
                · exact a
def wayX (w : WY) : Prop := ∀ n S, w = some (n, S) → xS S
theorem wayX_0 : wayX none := fun _ _ e => by cases e
theorem wayX_1 {n : Int} (h : xS S) : wayX (some (n, S)) := fun _ _ e => by cases e; exact h
theorem x_nrw (h : xS S) (hF : 1 ≤ sF S) {w : B64} {c : Int} {is : Bool} {x y : N6} (hd : dR w < 10 ∨ vk (rgV S 10) = 1) (hs : rgt w → sRr w < 10 ∨ vk (rgV S 10) = 1) : xS (nrwS S w c is x y) := by
  have k10 : ¬ vk (rgV S 10) = 1 := by
    unfold rgV
    rw [if_pos rfl]
    show ¬ (3 : Int) = 1
    decide
  have hd : dR w < 10 := by
    rcases hd with z | z
    · exact z
    · exact absurd z k10
  unfold nrwS
  split
  · rename_i c
    have hs : sRr w < 10 := by
      rcases hs c with z | z
      · exact z
      · exact absurd z k10
    exact x_w (x_w h hF hd xV_num) hF hs xV_num
  · exact x_w h hF hd xV_num
theorem x_numJ (h : xS S) (hF : 1 ≤ sF S) {w : B64} {g n : Int} (hd : dR w < 10 ∨ vk (rgV S 10) = 1) (hs : rgt w → sRr w < 10 ∨ vk (rgV S 10) = 1) : wayX (numJ S w g n t).2.1 ∧ wayX (numJ S w g n t).2.2.1 := by
  unfold numJ
  split
  · exact ⟨wayX_1 h, wayX_0⟩
  · split
    · exact ⟨wayX_1 h, wayX_0⟩
    · split
      · exact ⟨wayX_1 h, wayX_1 h⟩
      · split
        · split
          · exact ⟨wayX_1 (x_nrw h hF hd hs), wayX_1 (x_nrw h hF hd hs)⟩
          · exact ⟨wayX_1 (x_nrw h hF hd hs), wayX_0⟩
        · split
          · exact ⟨wayX_1 (x_nrw h hF hd hs), wayX_0⟩
          · exact ⟨wayX_0, wayX_0⟩
theorem x_rchJ (h : xS S) {p : VL} {c g n : Int} : wayX (rchJ S p c g n t).2.1 ∧ wayX (rchJ S p c g n t).2.2.1 := by
  unfold rchJ
  refine ⟨wayX_1 ?_, wayX_1 ?_⟩
  · split
    · exact x_rch h
    · split
      · exact x_rch h
      · exact h
  · split
    · exact x_rch h
    · split
      · exact x_rch h
      · exact h
theorem x_cmp (h : xS S) (hF : 1 ≤ sF S) {w : B64} {g n : Int} (hd : fD w ≤ 10) (hs : rgt w → fS w ≤ 10) : wayX (cmpJ S w g n t).2.1 ∧ wayX (cmpJ S w g n t).2.2.1 := by
  have fd := (fld_rng w).2.1
  have fs := (fld_rng w).2.2.1
  unfold cmpJ
  split
  · exact ⟨wayX_0, wayX_0⟩
  · split
    · rename_i c
      refine x_numJ h hF ?_ fun r => ?_
      · by_cases z : (fD w).toNat < 10
        · exact Or.inl z
        · refine Or.inr ?_
          have e : dR w = 10 := by show (fD w).toNat = 10; omega
          rw [← e]
          exact c.1
      · by_cases z : (fS w).toNat < 10
        · exact Or.inl z
        · refine Or.inr ?_
          have e : sRr w = 10 := by have := hs r; show (fS w).toNat = 10; omega
          have c2 := c.2
          unfold sidJ at c2
          rw [if_pos r, e] at c2
          exact c2
    · split
      · split
        · exact ⟨wayX_1 (x_plc h), wayX_1 (x_becZ h)⟩
        · exact ⟨wayX_1 (x_becZ h), wayX_1 (x_plc h)⟩
      · split
        · exact ⟨wayX_1 h, wayX_0⟩
        · split
          · exact ⟨wayX_0, wayX_0⟩
          · split
            · exact x_rchJ h
            · split
              · exact x_rchJ h
              · exact ⟨wayX_0, wayX_0⟩
theorem x_ent (h : xS S) (hF : 1 ≤ sF S) {g n : Int} : wayX (entJ S g n t).2.1 ∧ wayX (entJ S g n t).2.2.1 := by
  unfold entJ
  split
  · exact ⟨wayX_0, wayX_0⟩
  · refine ⟨wayX_1 ⟨fun k hk => ?_, fun k hk k1 => ?_⟩, wayX_0⟩
    · have hk : k < 26 * (sF S + 1) := hk
      show xP (sH S) (if 26 * sF S + 1 ≤ k ∧ k ≤ 26 * sF S + 5 then sV S (k - 26) else (if 26 * sF S ≤ k ∧ k < 26 * sF S + 26 then unsV else sV S k))
      split
      · exact h.1 _ (by omega)
      · split
        · exact (xV_mk (by omega) (by omega) (by omega)).1
        · exact h.1 _ (by omega)
    · have hk : k < 26 * (sF S + 1) := hk
      show vk (if 26 * sF S + 1 ≤ k ∧ k ≤ 26 * sF S + 5 then sV S (k - 26) else (if 26 * sF S ≤ k ∧ k < 26 * sF S + 26 then unsV else sV S k)) = 0 → vr (if 26 * sF S + 1 ≤ k ∧ k ≤ 26 * sF S + 5 then sV S (k - 26) else (if 26 * sF S ≤ k ∧ k < 26 * sF S + 26 then unsV else sV S k)) = 0
      split
      · exact h.2 _ (by omega) (by omega)
      · split
        · exact fun _ => rfl
        · exact h.2 _ (by omega) k1
theorem x_exi (h : xS S) (hF : 1 ≤ sF S) : wayX (exiJ S t).2.1 ∧ wayX (exiJ S t).2.2.1 := by
  unfold exiJ
  split
  · exact ⟨wayX_0, wayX_0⟩
  · split
    · exact ⟨wayX_0, wayX_0⟩
    · split
      · split <;> exact ⟨wayX_0, wayX_0⟩
      · refine ⟨wayX_1 (x_unsA (x_w (S := (sF S - 1, sV S, sB S, sH S)) ⟨fun k hk => ?_, fun k hk => ?_⟩ (show 1 ≤ sF S - 1 by omega) (by decide) (x_r h hF (by omega)))), wayX_0⟩
        · have hk : k < 26 * (sF S - 1) := hk
          exact h.1 k (by omega)
        · have hk : k < 26 * (sF S - 1) := hk
          exact h.2 k (by omega)
theorem hlp26_d (h : hlpF E S 26 = 0) : (vk (rgV S 3) = 3 ∧ vk (rgV S 4) = 1) ∧ ¬ 128#64 < jB (vn (rgV S 4)) ∧ ¬ jA (vn (rgV S 4)) = 0#64 ∧ room E (rgV S 3) 0 (jB (vn (rgV S 4))).toInt := by
  unfold hlpF at h
  rw [if_neg (by decide), if_neg (by decide), if_neg (by decide), if_neg (by decide), if_neg (by decide), if_pos rfl] at h
  obtain ⟨h, h5⟩ := fst_0 h
  obtain ⟨h, h4⟩ := fst_0 h
  obtain ⟨h, h3⟩ := fst_0 h
  have q4 := of_decide_eq_true (wntA_0 h3).2.2
  have q3 := of_decide_eq_true (wntA_0 h4).2.2
  refine ⟨⟨q3, q4.1⟩, q4.2.2, q4.2.1, ?_⟩
  by_cases c : room E (rgV S 3) 0 (jB (vn (rgV S 4))).toInt
  · exact c
  · rw [if_neg c] at h5
    exact absurd h5 (by decide)
theorem hlp26 (h : hlpF E S 26 = 0) : (vo (rgV S 3) + 128).toNat + (jB (vn (rgV S 4))).toNat ≤ 128 := by
  obtain ⟨⟨q3, -⟩, q4, -, rm⟩ := hlp26_d h
  unfold room at rm
  rw [if_pos q3] at rm
  have b : (jB (vn (rgV S 4))).toNat ≤ 128 := by
    have := BitVec.not_lt.mp q4
    have := BitVec.le_def.mp this
    exact this
  have e : (jB (vn (rgV S 4))).toInt = ((jB (vn (rgV S 4))).toNat : Int) := BitVec.toInt_eq_toNat_of_lt (by omega)
  rw [e] at rm
  omega
theorem x_hlp (h : xS S) (ho : okS E t S) {x n : Int} : wayX (hlpJ E S x n t).2.1 ∧ wayX (hlpJ E S x n t).2.2.1 := by
  have hF := ho.1.1
  have hs : hlpF E S x = 0 → xS (hlpS S x) := fun hf => by
    unfold hlpS
    split
    · rename_i c
      have c3 := rV_ok ho (r := 3) (by decide)
      have c4 := rV_ok ho (r := 4) (by decide)
      refine x_put h ?_
      rw [c] at hf
      exact hlp26 hf
    · split
      · refine x_all h (fun v hv => ?_) (fun v hv => ?_)
        · unfold pktV
          split
          · exact (xV_mk (by omega) (by omega) (by omega)).1
          · exact hv
        · unfold pktV
          split
          · exact fun _ => rfl
          · exact hv
      · split
        · refine x_all (S := relH S _) (x_rel h) (fun v hv => ?_) (fun v hv => ?_)
          · unfold recV
            split
            · exact (xV_mk (by omega) (by omega) (by omega)).1
            · exact hv
          · unfold recV
            split
            · exact fun _ => rfl
            · exact hv
        · exact h
  have sh : sF (hlpS S x) = sF S := by
    unfold hlpS
    repeat' split
    all_goals rfl
  have un : ∀ T : ST, 1 ≤ sF T → 1 ≤ sF (unsA T) := fun T q => q
  unfold hlpJ
  split
  · exact ⟨wayX_0, wayX_0⟩
  · rename_i hf
    have hf := Decidable.not_not.mp hf
    split
    · refine ⟨wayX_1 (x_w (x_unsA h) (un _ hF) (by decide) ⟨⟨fun _ z => ?_, fun z => absurd z (by show ¬ ((6 : Int) = 2 ∨ (6 : Int) = 7 ∨ (6 : Int) = 8); omega), fun z => absurd z (by show ¬ ((6 : Int) = 2 ∨ (6 : Int) = 3 ∨ (6 : Int) = 4 ∨ (6 : Int) = 5 ∨ (6 : Int) = 8); omega)⟩, fun _ => rfl⟩), wayX_0⟩
      have := (ho.2.2.2.1 _ z).2
      have : t + 1 ≤ t := this
      omega
    · split
      · refine ⟨wayX_1 ?_, wayX_0⟩
        have u := x_w (S := unsA S) (r := 0) (v := mkV 10 (jV (vn (rgV S 2))).toInt (t + 1)) (x_unsA h) (un _ hF) (by decide) (xV_mk (by omega) (by omega) (by omega))
        refine ⟨fun k hk => ⟨fun e z => ?_, (u.1 k hk).2⟩, u.2⟩
        rcases List.mem_append.mp z with z | z
        · exact (u.1 k hk).1 e z
        · have z : vt (sV (wV (unsA S) 0 (mkV 10 (jV (vn (rgV S 2))).toInt (t + 1))) k) = t + 1 := List.mem_singleton.mp z
          have hk : k < 26 * sF S := hk
          have e : vk (if k = 26 * (sF S - 1) + 0 then mkV 10 (jV (vn (rgV S 2))).toInt (t + 1) else if 26 * (sF S - 1) + 1 ≤ k ∧ k ≤ 26 * (sF S - 1) + 5 then unsV else sV S k) = 6 := e
          have z : vt (if k = 26 * (sF S - 1) + 0 then mkV 10 (jV (vn (rgV S 2))).toInt (t + 1) else if 26 * (sF S - 1) + 1 ≤ k ∧ k ≤ 26 * (sF S - 1) + 5 then unsV else sV S k) = t + 1 := z
          by_cases c0 : k = 26 * (sF S - 1) + 0
          · rw [if_pos c0] at e
            exact absurd (show (10 : Int) = 6 from e) (by decide)
          · rw [if_neg c0] at e z
            by_cases c1 : 26 * (sF S - 1) + 1 ≤ k ∧ k ≤ 26 * (sF S - 1) + 5
            · rw [if_pos c1] at e
              exact absurd (show (0 : Int) = 6 from e) (by decide)
            · rw [if_neg c1] at e z
              have := (ho.2.1 k hk).2.2.2.2.2.2.1 (Or.inl e)
              omega
      · exact ⟨wayX_1 (x_w (x_unsA (hs hf)) (un _ (by rw [sh]; exact hF)) (by decide) xV_num), wayX_0⟩
theorem x_way {f n t' : Int} (h : f = 0 → xS S) : wayX (wayJ f n S t').2.1 ∧ wayX (wayJ f n S t').2.2.1 := by
  unfold wayJ
  split
  · rename_i e
    exact ⟨wayX_1 (h e), wayX_0⟩
  · exact ⟨wayX_0, wayX_0⟩
theorem stp_x (h : xS S) (ho : okS E t S) {w w2 : B64} {i : Int} (hw : okI w w2) : wayX (stpJ E S i w w2 t).2.1 ∧ wayX (stpJ E S i w w2 t).2.2.1 := by
  have hF := ho.1.1
  have fr := fld_rng w
  unfold stpJ
  by_cases l0 : fL w = 0
  · rw [if_pos l0]
    have d9 : fD w ≤ 9 := by
      rcases hw with hw | hw
      · exact hw.2.1.2.1
      · unfold okPl at hw
        rw [if_pos l0] at hw
        exact hw.elim
    split
    · exact ⟨wayX_1 (x_w h hF (dR_9 d9) xV_num), wayX_0⟩
    · split
      · exact ⟨wayX_0, wayX_0⟩
      · exact ⟨wayX_1 (x_w h hF (dR_9 d9) (xV_mk (by omega) (by omega) (by omega))), wayX_0⟩
  · rw [if_neg l0]
    have hw : okPl w := by
      rcases hw with hw | hw
      · exact absurd hw.1 l0
      · exact hw
    unfold okPl at hw
    rw [if_neg l0] at hw
    by_cases l4 : fL w = 4 ∨ fL w = 7
    · rw [if_pos l4] at hw ⊢
      refine x_way fun _ => x_w h hF (dR_9 hw.1.1) (x_alu h hF hw.1.1 fun r c1 c2 => ?_)
      have := hw.2
      rw [if_neg c1, if_neg c2, if_pos r] at this
      exact this.1.1
    · rw [if_neg l4] at hw ⊢
      by_cases l5 : fL w = 5 ∨ fL w = 6
      · rw [if_pos l5] at hw ⊢
        split
        · exact ⟨wayX_1 h, wayX_0⟩
        · rename_i j1
          split
          · exact x_exi h hF
          · rename_i j2
            split
            · split
              · exact x_ent h hF
              · exact x_hlp h ho
            · rename_i j3
              unfold okJmp at hw
              rw [if_neg (fun z => j1 (Or.inl z)), if_neg (fun z => j1 (Or.inr z)), if_neg j3, if_neg j2] at hw
              refine x_cmp h hF hw.1.2 fun r => ?_
              have := hw.2
              rw [if_pos r] at this
              exact this.1
      · rw [if_neg l5] at hw ⊢
        unfold okMem at hw
        by_cases l1 : fL w = 1
        · rw [if_pos l1] at hw ⊢
          exact x_way fun z => x_w h hF (dR_9 hw.2.1) (x_lod h ho hw.2.2.1 z)
        · rw [if_neg l1] at hw ⊢
          by_cases m : fL w = 3 ∧ fM w = 192
          · rw [if_pos m]
            refine x_way fun _ => x_swp h hF ?_
            rw [if_neg (by omega), if_neg (by omega)] at hw
            rcases hw.2 with q | q
            · by_cases z : fI w = 241
              · exact Or.inr (Or.inr z)
              · exact Or.inr (Or.inl (by omega))
            · exact Or.inl q.2
          · rw [if_neg m]
            refine x_way fun _ => x_sto h hF fun l3 => ?_
            rw [if_neg (by omega)] at hw
            by_cases m96 : fM w = 96
            · rw [if_pos m96] at hw
              exact hw.2.1
            · exfalso
              refine m ⟨l3, ?_⟩
              rw [if_neg m96] at hw
              unfold fM
              omega
end XS
/-- what is always so of a VALUE in the class's row -/
def okW (v : VL) : Prop := (0 ≤ vk v ∧ vk v ≤ 10) ∧ (0 ≤ vt v ∧ vt v < 2000000) ∧ (0 ≤ vw v ∧ vw v ≤ 100) ∧ (-4096 ≤ vo v ∧ vo v ≤ 4096) ∧ (0 ≤ vr v ∧ vr v ≤ 4097) ∧ canV v
theorem okW_of {E : EV} {g : Nat} {t : Int} {H : List Int} {v : VL} (o : okV E g t v) (c : canV v) (x : xP H v) (hg : g ≤ 10) (ht : t < 1000000) : okW v := by
  obtain ⟨o1, o2, o3, o4, o5, o6, o7, o8, o9, o10⟩ := o
  obtain ⟨x1, x2, x3⟩ := x
  have c' := c
  obtain ⟨c1, c2, c3, c4, c5, c6⟩ := c'
  by_cases k1 : vk v = 1
  · have e := c1 k1
    have w : vw v = 0 := by rw [e]; rfl
    have o : vo v = 0 := by rw [e]; rfl
    have r : vr v = 0 := by rw [e]; rfl
    have t : vt v = 0 := by rw [e]; rfl
    exact ⟨o1, by omega, by omega, by omega, by omega, c⟩
  · by_cases k0 : vk v = 0
    · have e := c2 k0
      have w : vw v = 0 := by rw [e.1]; rfl
      have o : vo v = 0 := by rw [e.1]; rfl
      have t : vt v = 0 := by rw [e.1]; rfl
      exact ⟨o1, by omega, by omega, by omega, by omega, c⟩
    · have k : vk v = 2 ∨ vk v = 3 ∨ vk v = 4 ∨ vk v = 5 ∨ vk v = 6 ∨ vk v = 7 ∨ vk v = 8 ∨ vk v = 9 ∨ vk v = 10 := by omega
      have c5 := c5 k0
      refine ⟨o1, ?_, ?_, ?_, ?_, c⟩
      · rcases k with k | k | k | k | k | k | k | k | k
        · have := x3 (by omega); omega
        · have := x3 (by omega); omega
        · have := x3 (by omega); omega
        · have := x3 (by omega); omega
        · have := o7 (by omega); omega
        · have := o8 k; omega
        · have := x3 (by omega); omega
        · have := o7 (by omega); omega
        · have := o7 (by omega); omega
      · rcases k with k | k | k | k | k | k | k | k | k
        · have := x2 (by omega); omega
        · have := o3 k; omega
        · have := o4 k; omega
        · have := o5 (by omega); omega
        · have := o5 (by omega); omega
        · have := x2 (by omega); omega
        · have := x2 (by omega); omega
        · have := o9 (by omega); omega
        · have := o9 (by omega); omega
      · by_cases m : mvs v
        · exact o2 m
        · have m : ¬ (vk v = 3 ∨ vk v = 5 ∨ vk v = 7 ∨ vk v = 9) := m
          have := c4 (by omega)
          omega
      · by_cases k7 : vk v = 7
        · have := o10 k7
          have := c6 k7
          omega
        · have := c5 k7
          omega
theorem okW_S {E : EV} {t : Int} {S : ST} (ho : okS E t S) (hc : canS S) (hx : xS S) (ht : t < 1000000) {k : Nat} (hk : k < 26 * sF S) : okW (sV S k) := okW_of (ho.2.1 k hk) (hc k hk) (hx.1 k hk) (by have := ho.1; omega) ht
theorem okW_3 {f : Nat} (h : f ≤ 4) : okW (mkV 3 (f : Int) 0) := by
  have k : vk (mkV 3 (f : Int) 0) = 3 := rfl
  exact ⟨by omega, by show (0 : Int) ≤ 0 ∧ (0 : Int) < 2000000; decide, by show (0 : Int) ≤ (f : Int) ∧ (f : Int) ≤ 100; omega, by show (-4096 : Int) ≤ 0 ∧ (0 : Int) ≤ 4096; decide, by show (0 : Int) ≤ 0 ∧ (0 : Int) ≤ 4097; decide, can_mk (by decide)⟩
-- FILE 79.cpl
/-! ===== the class's states: places in a row ===== -/
/-- VALUE m of a row: 27 a frame, the tenth its stack -/
def plX (S : ST) (m : Nat) : VL := if m % 27 = 10 then mkV 3 ((m / 27 : Nat) : Int) 0 else sV S (26 * (m / 27) + (if m % 27 < 10 then m % 27 else m % 27 - 1))
def cHd (σ : MS) (k : Nat) (S : ST) : Prop := (gI σ k 3 = (sF S : Int) ∧ gI σ k 4 = ((sH S).length : Int)) ∧ (∀ f, 1 ≤ f → f < sF S → gI σ (k + 1 + 1) f = sB S f) ∧ ∀ j, j < (sH S).length → gI σ (k + 1 + 2) j = (sH S).getD j 0
def cAl (σ : MS) (k n : Nat) (P : Nat → VL) : Prop := ∀ m, m < n → cAt σ k (11 * m) (P m)
section CPL
variable {σ τ : MS} {k j m n r f q pl : Nat} {S : ST} {P P' : Nat → VL} {u v : VL} {x y a : Int}
theorem plX_r (hr : r < 10) : plX S (27 * f + r) = sV S (26 * f + r) := by
  unfold plX
  rw [if_neg (by omega), if_pos (by omega), show 26 * ((27 * f + r) / 27) + (27 * f + r) % 27 = 26 * f + r by omega]
theorem plX_s : plX S (27 * f + 10) = mkV 3 (f : Int) 0 := by
  unfold plX
  rw [if_pos (by omega), show (27 * f + 10) / 27 = f by omega]
theorem plX_p (hq : q < 16) : plX S (27 * f + 11 + q) = sV S (26 * f + 10 + q) := by
  unfold plX
  rw [if_neg (by omega), if_neg (by omega), show 26 * ((27 * f + 11 + q) / 27) + ((27 * f + 11 + q) % 27 - 1) = 26 * f + 10 + q by omega]
theorem cHd_of (h : CSt σ k S) : cHd σ k S := ⟨h.1, h.2.2.2.2.1, h.2.2.2.2.2⟩
theorem CSt_al (h : CSt σ k S) : cAl σ k (27 * sF S) (plX S) := fun m hm => by
  obtain ⟨-, v1, v2, v3, -⟩ := h
  by_cases c : m % 27 = 10
  · have e : m = 27 * (m / 27) + 10 := by omega
    have := v2 (m / 27) (by omega)
    rw [show 297 * (m / 27) + 110 = 11 * m by omega] at this
    rw [e, plX_s, ← e]
    exact this
  · by_cases d : m % 27 < 10
    · have e : m = 27 * (m / 27) + m % 27 := by omega
      have := v1 (m / 27) (m % 27) (by omega) d
      rw [show 297 * (m / 27) + 11 * (m % 27) = 11 * m by omega] at this
      have z := plX_r (S := S) (f := m / 27) d
      rw [← e] at z
      rw [z]
      exact this
    · have e : m = 27 * (m / 27) + 11 + (m % 27 - 11) := by omega
      have := v3 (m / 27) (m % 27 - 11) (by omega) (by omega)
      rw [show 297 * (m / 27) + 121 + 11 * (m % 27 - 11) = 11 * m by omega] at this
      have z := plX_p (S := S) (f := m / 27) (show m % 27 - 11 < 16 by omega)
      rw [← e] at z
      rw [z]
      exact this
theorem CSt_of (h : cHd σ k S) (a : cAl σ k (27 * sF S) (plX S)) : CSt σ k S := by
  refine ⟨h.1, fun f r hf hr => ?_, fun f hf => ?_, fun f q hf hq => ?_, h.2.1, h.2.2⟩
  · have := a (27 * f + r) (by omega)
    rwa [plX_r hr, show 11 * (27 * f + r) = 297 * f + 11 * r by omega] at this
  · have := a (27 * f + 10) (by omega)
    rwa [plX_s, show 11 * (27 * f + 10) = 297 * f + 110 by omega] at this
  · have := a (27 * f + 11 + q) (by omega)
    rwa [plX_p hq, show 11 * (27 * f + 11 + q) = 297 * f + 121 + 11 * q by omega] at this
def upP (P : Nat → VL) (m : Nat) (v : VL) : Nat → VL := fun i => if i = m then v else P i
theorem al_w (c : cxV τ σ k (11 * m) v) (a : cAl σ k n P) : cAl τ k n (upP P m v) := fun i hi => by
  unfold upP
  by_cases e : i = m
  · rw [if_pos e, e]
    exact c.2.2.2
  · rw [if_neg e]
    exact cx_o c (by omega) (a i hi)
theorem al_m (h : ∀ i, i < n → P i = P' i) (a : cAl σ k n P) : cAl σ k n P' := fun i hi => by
  rw [← h i hi]
  exact a i hi
/-- g for each VALUE -/
theorem plX_all {g : VL → VL} (hg : ∀ f : Nat, g (mkV 3 (f : Int) 0) = mkV 3 (f : Int) 0) (hm : m < 27 * sF S) : plX (allV S g) m = g (plX S m) := by
  unfold plX
  by_cases c : m % 27 = 10
  · rw [if_pos c, if_pos c, hg]
  · rw [if_neg c, if_neg c]
    show (if _ < 26 * sF S then g (sV S _) else sV S _) = _
    rw [if_pos]
    split <;> omega
theorem cAt_rg (h : CSt σ k S) (hF : 1 ≤ sF S) (hr : r ≤ 10) : cAt σ k (297 * (sF S - 1) + 11 * r) (rgV S r) := by
  unfold rgV
  by_cases c : r = 10
  · rw [if_pos c, c]
    have := h.2.2.1 (sF S - 1) (by omega)
    rwa [show ((sF S - 1 : Nat) : Int) = (sF S : Int) - 1 by omega] at this
  · rw [if_neg c]
    exact h.2.1 (sF S - 1) r (by omega) (by omega)
theorem gSt {i : Nat} (h : isSt σ k) (hi : i < 1188) : (Option.isSome (some (k + 1 + 0)) = true ∧ ab σ 4 (k + 1 + 0) (i : Int)) = True := by
  rw [abS h]
  exact eq_true ⟨by omega, by omega⟩
theorem w_pl {c : Nat} (h : pl + c < 100000) : w32 ((pl : Int) + (c : Int)) = ((pl + c : Nat) : Int) := by
  rw [w32_i (by omega) (by omega)]
  omega
theorem iL_e (hx : -2147483648 ≤ x ∧ x < 2147483648) (hy : -2147483648 ≤ y ∧ y < 2147483648) : (iL x = iL y) = (x = y) := by
  apply propext
  constructor
  · intro h
    have := congrArg BitVec.toInt h
    rwa [iLt (by omega) (by omega), iLt (by omega) (by omega)] at this
  · intro h
    rw [h]
theorem iL_z (hx : -2147483648 ≤ x ∧ x < 2147483648) : (iL x = 0#64) = (x = 0) := iL_e (y := 0) hx (by decide)
theorem iL_o (hx : -2147483648 ≤ x ∧ x < 2147483648) : (iL x = 1#64) = (x = 1) := iL_e (y := 1) hx (by decide)
theorem iLm (x y : Int) : iL x * iL y = iL (x * y) := (BitVec.ofInt_mul x y).symm
theorem iL_sh {b : Nat} (hb : b < 100000) : lShr (iL (b : Int)) 3 = iL ((b / 8 : Nat) : Int) := by
  apply BitVec.eq_of_toInt_eq
  have := lShr_toInt (iL (b : Int)) (n := 3) (by decide)
  rw [show lShr (iL (b : Int)) 3 = lShr (iL (b : Int)) ((3 : Nat) : Int) from rfl, this, iLt (by omega) (by omega), iLt (by omega) (by omega)]
  show (b : Int) / 8 = _
  omega
theorem T213 {b : Nat} (hf : f < 4) (e : a + 128 = (b : Int)) (hb : b < 128) : MM 213 [mL (iL (f : Int)), mL (iL a)] σ = some (some (mI ((297 * f + 121 + 11 * (b / 8) : Nat) : Int)), σ) := by
  have z : lI ((iL (f : Int) * iL 297) + ((iL 11 + lShr (iL a + iL 128) 3) * iL 11)) = ((297 * f + 121 + 11 * (b / 8) : Nat) : Int) := by
    rw [iLa, e, iL_sh (by omega), iLm, iLa, iLm, iLa, lIi (by omega) (by omega)]
    omega
  simp only [M213, e213_0, z]
theorem an7 {b : Nat} (e : a + 128 = (b : Int)) (hb : b < 100000) : iL a &&& iL 7 = iL ((b % 8 : Nat) : Int) := by
  apply BitVec.eq_of_toNat_eq
  have s7 : (iL 7).toNat = 2 ^ 3 - 1 := by decide
  rw [BitVec.toNat_and, s7, Nat.and_two_pow_sub_one_eq_mod]
  unfold iL
  rw [BitVec.toNat_ofInt, BitVec.toNat_ofInt]
  omega
theorem T222 {b : Nat} {c : Int} (h : isSt σ k) (e : a + 128 = (b : Int)) (hb : b < 100000) : MM 222 [mR (some k), mL (iL a), mI c] σ = some (some (mI (b2 (c = 8 ∧ b % 8 = 0))), σ) := by
  by_cases c8 : c = 8
  · by_cases d : b % 8 = 0
    · have z : iL a &&& iL 7 = BitVec.ofNat 64 0 := by
        rw [an7 e hb, d]
        rfl
      simp only [M222, e222_0, z, c8, d, b2_yes, Option.getD_some, Option.bind_some, Option.toList_some, Option.toList_none, List.cons_append, List.nil_append, and_self, and_true, true_and, false_and, and_false, ite_self, not_true_eq_false, not_false_eq_true, reduceIte, Nat.reduceEqDiff, ab_I, ab_L, ab_R, ao_I, ao_L, ao_R, gL_sL, gI_sI, gR_sR, gI_sL, gI_sR, gL_sI, gL_sR, gR_sI, gR_sL]
    · have z : ¬ iL a &&& iL 7 = BitVec.ofNat 64 0 := by
        rw [an7 e hb, iL_z (by omega)]
        omega
      simp only [M222, e222_0, e222_20, z, c8, d, b2_no, Option.getD_some, Option.bind_some, Option.toList_some, Option.toList_none, List.cons_append, List.nil_append, and_self, and_true, true_and, false_and, and_false, ite_self, not_true_eq_false, not_false_eq_true, reduceIte, Nat.reduceEqDiff, ab_I, ab_L, ab_R, ao_I, ao_L, ao_R, gL_sL, gI_sI, gR_sR, gI_sL, gI_sR, gL_sI, gL_sR, gR_sI, gR_sL]
      rfl
  · simp only [M222, e222_0, e222_20, c8, b2_no, Option.getD_some, Option.bind_some, Option.toList_some, Option.toList_none, List.cons_append, List.nil_append, and_self, and_true, true_and, false_and, and_false, ite_self, not_true_eq_false, not_false_eq_true, reduceIte, Nat.reduceEqDiff, ab_I, ab_L, ab_R, ao_I, ao_L, ao_R, gL_sL, gI_sI, gR_sR, gI_sL, gI_sR, gL_sI, gL_sR, gR_sI, gR_sL]
    rfl
/-- reading kinds and fields -/
theorem rd_0 (h : cAt σ k pl v) : gL σ (k + 1 + 0) pl = iL (vk v) := h 0 (by decide)
theorem rd_7 (h : cAt σ k pl v) : gL σ (k + 1 + 0) (pl + 7) = iL (vo v) := h 7 (by decide)
theorem rd_8 (h : cAt σ k pl v) : gL σ (k + 1 + 0) (pl + 8) = iL (vw v) := h 8 (by decide)
theorem rd_9 (h : cAt σ k pl v) (c : canV v) : gL σ (k + 1 + 0) (pl + 9) = iL (if vk v = 0 then 0 else vr v) := by
  have := h 9 (by decide)
  rw [this]
  show (if vk v = 0 then 0#64 else iL (vr v)) = _
  split <;> rfl
theorem rd_10 (h : cAt σ k pl v) : gL σ (k + 1 + 0) (pl + 10) = iL (vt v) := h 10 (by decide)
theorem rd_1 (h : cAt σ k pl v) : gL σ (k + 1 + 0) (pl + 1) = if vk v = 0 then iL (vr v) else jV (vn v) := h 1 (by decide)
theorem rd_1n (h : cAt σ k pl v) (z : ¬ vk v = 0) : gL σ (k + 1 + 0) (pl + 1) = jV (vn v) := (rd_1 h).trans (if_neg z)
theorem rd_2 (h : cAt σ k pl v) : gL σ (k + 1 + 0) (pl + 2) = jM (vn v) := h 2 (by decide)
theorem rd_3 (h : cAt σ k pl v) : gL σ (k + 1 + 0) (pl + 3) = jA (vn v) := h 3 (by decide)
theorem rd_4 (h : cAt σ k pl v) : gL σ (k + 1 + 0) (pl + 4) = jB (vn v) := h 4 (by decide)
theorem rd_5 (h : cAt σ k pl v) : gL σ (k + 1 + 0) (pl + 5) = jC (vn v) := h 5 (by decide)
theorem rd_6 (h : cAt σ k pl v) : gL σ (k + 1 + 0) (pl + 6) = jD (vn v) := h 6 (by decide)
theorem rd_row (h : cAt σ k pl v) (z : ¬ vk v = 0) : rowN σ (k + 1 + 0) pl = vn v := by
  unfold rowN
  rw [rd_1n h z, rd_2 h, rd_3 h, rd_4 h, rd_5 h, rd_6 h]
abbrev okK (v : VL) : Prop := 0 ≤ vk v ∧ vk v ≤ 10
theorem T223 {b : Nat} {c : Int} (h : isSt σ k) (hS : CSt σ k S) (hF : sF S ≤ 4) (hf : f < sF S) (e : a + 128 = (b : Int)) (hb : b < 128) (hk : okK (sV S (26 * f + 10 + b / 8))) : MM 223 [mR (some k), mL (iL (f : Int)), mL (iL a), mI c] σ = some (some (mI (if (c = 8 ∧ b % 8 = 0) ∧ ¬ vk (sV S (26 * f + 10 + b / 8)) = 0 then ((297 * f + 121 + 11 * (b / 8) : Nat) : Int) else -1)), σ) := by
  have hv := hS.2.2.2.1 f (b / 8) hf (by omega)
  have l : 297 * f + 121 + 11 * (b / 8) < 1188 := by omega
  have e0 := rd_0 hv
  have k0 : (iL (vk (sV S (26 * f + 10 + b / 8))) = BitVec.ofNat 64 0) = (vk (sV S (26 * f + 10 + b / 8)) = 0) := iL_z (by omega)
  by_cases w : c = 8 ∧ b % 8 = 0
  · by_cases z : vk (sV S (26 * f + 10 + b / 8)) = 0
    · simp only [M223, e223_0, e223_5, e223_14, e223_34, Option.getD_some, Option.bind_some, Option.toList_some, Option.toList_none, List.cons_append, List.nil_append, and_self, and_true, true_and, false_and, and_false, ite_self, not_true_eq_false, not_false_eq_true, reduceIte, Nat.reduceEqDiff, ab_I, ab_L, ab_R, ao_I, ao_L, ao_R, gL_sL, gI_sI, gR_sR, gI_sL, gI_sR, gL_sI, gL_sR, gR_sI, gR_sL, T213 (σ := σ) (show f < 4 by omega) e hb, T222 h e (show b < 100000 by omega), aoS h, gSt h l, Int.toNat_natCast, e0, k0, z, w, b2_n']
    · simp only [M223, e223_0, e223_5, e223_14, e223_34, Option.getD_some, Option.bind_some, Option.toList_some, Option.toList_none, List.cons_append, List.nil_append, and_self, and_true, true_and, false_and, and_false, ite_self, not_true_eq_false, not_false_eq_true, reduceIte, Nat.reduceEqDiff, ab_I, ab_L, ab_R, ao_I, ao_L, ao_R, gL_sL, gI_sI, gR_sR, gI_sL, gI_sR, gL_sI, gL_sR, gR_sI, gR_sL, T213 (σ := σ) (show f < 4 by omega) e hb, T222 h e (show b < 100000 by omega), aoS h, gSt h l, Int.toNat_natCast, e0, k0, z, w, b2_0', b2_n']
  · simp only [M223, e223_0, e223_5, e223_14, e223_34, Option.getD_some, Option.bind_some, Option.toList_some, Option.toList_none, List.cons_append, List.nil_append, and_self, and_true, true_and, false_and, and_false, ite_self, not_true_eq_false, not_false_eq_true, reduceIte, Nat.reduceEqDiff, ab_I, ab_L, ab_R, ao_I, ao_L, ao_R, gL_sL, gI_sI, gR_sR, gI_sL, gI_sR, gL_sI, gL_sR, gR_sI, gR_sL, T213 (σ := σ) (show f < 4 by omega) e hb, T222 h e (show b < 100000 by omega), aoS h, w, b2_0']
theorem T224 {b : Nat} {c : Int} (h : isSt σ k) (hf : f < 4) (e : a + 128 = (b : Int)) (hb : b < 100000) (hb2 : c = 8 ∧ b % 8 = 0 → b < 128) (hp : pl + 11 ≤ 1188) (hv : cAt σ k pl v) : okc (MM 224 [mR (some k), mL (iL (f : Int)), mL (iL a), mI c, mI (pl : Int)] σ) (some (mI (b2 (c = 8 ∧ b % 8 = 0)))) (fun τ => if c = 8 ∧ b % 8 = 0 then cxV τ σ k (297 * f + 121 + 11 * (b / 8)) v else τ = σ) := by
  by_cases w : c = 8 ∧ b % 8 = 0
  · obtain ⟨τ, t, q⟩ := T216 (a := pl) (b := 297 * f + 121 + 11 * (b / 8)) h hp (by have := hb2 w; omega) hv
    have hτ := st_r q.2.2.1 h
    refine okc_o (τ := τ) ?_ ((if_pos w).mpr q)
    simp only [M224, e224_0, e224_7, e224_20, e224_23, Option.getD_some, Option.bind_some, Option.toList_some, Option.toList_none, List.cons_append, List.nil_append, and_self, and_true, true_and, false_and, and_false, ite_self, not_true_eq_false, not_false_eq_true, reduceIte, Nat.reduceEqDiff, ab_I, ab_L, ab_R, ao_I, ao_L, ao_R, gL_sL, gI_sI, gR_sR, gI_sL, gI_sR, gL_sI, gL_sR, gR_sI, gR_sL, T213 (σ := σ) hf e (hb2 w), T222 h e hb, aoS h, t, w, b2_n', b2_yes]
  · refine okc_o (τ := σ) ?_ ((if_neg w).mpr rfl)
    simp only [M224, e224_0, e224_7, Option.getD_some, Option.bind_some, Option.toList_some, Option.toList_none, List.cons_append, List.nil_append, and_self, and_true, true_and, false_and, and_false, ite_self, not_true_eq_false, not_false_eq_true, reduceIte, Nat.reduceEqDiff, ab_I, ab_L, ab_R, ao_I, ao_L, ao_R, gL_sL, gI_sI, gR_sR, gI_sL, gI_sR, gL_sI, gL_sR, gR_sI, gR_sL, T222 h e hb, aoS h, w, b2_n', b2_no]
    rw [b2_no (p := False) not_false]
theorem T225 {b : Nat} {c : Int} (h : isSt σ k) (hf : f < 4) (e : a + 128 = (b : Int)) (hb : b < 100000) (hb2 : c = 8 ∧ b % 8 = 0 → b < 128) (hj : isNm σ j) (hne : ¬ j = k + 1 + 0) : okc (MM 225 [mR (some k), mL (iL (f : Int)), mL (iL a), mI c, mR (some j)] σ) (some (mI (b2 (c = 8 ∧ b % 8 = 0)))) (fun τ => if c = 8 ∧ b % 8 = 0 then cxV τ σ k (297 * f + 121 + 11 * (b / 8)) (numV (rC σ j)) else τ = σ) := by
  by_cases w : c = 8 ∧ b % 8 = 0
  · obtain ⟨τ, t, q⟩ := T218 (pl := 297 * f + 121 + 11 * (b / 8)) h hj hne (by have := hb2 w; omega)
    refine okc_o (τ := τ) ?_ ((if_pos w).mpr q)
    simp only [M225, e225_0, e225_7, e225_18, e225_23, Option.getD_some, Option.bind_some, Option.toList_some, Option.toList_none, List.cons_append, List.nil_append, and_self, and_true, true_and, false_and, and_false, ite_self, not_true_eq_false, not_false_eq_true, reduceIte, Nat.reduceEqDiff, ab_I, ab_L, ab_R, ao_I, ao_L, ao_R, gL_sL, gI_sI, gR_sR, gI_sL, gI_sR, gL_sI, gL_sR, gR_sI, gR_sL, T213 (σ := σ) hf e (hb2 w), T222 h e hb, aoS h, t, w, b2_n', b2_yes]
  · refine okc_o (τ := σ) ?_ ((if_neg w).mpr rfl)
    simp only [M225, e225_0, e225_7, Option.getD_some, Option.bind_some, Option.toList_some, Option.toList_none, List.cons_append, List.nil_append, and_self, and_true, true_and, false_and, and_false, ite_self, not_true_eq_false, not_false_eq_true, reduceIte, Nat.reduceEqDiff, ab_I, ab_L, ab_R, ao_I, ao_L, ao_R, gL_sL, gI_sI, gR_sR, gI_sL, gI_sR, gL_sI, gL_sR, gR_sI, gR_sL, T222 h e hb, aoS h, w, b2_n', b2_no]
    rw [b2_no (p := False) not_false]
end CPL
-- FILE 80.cbyt
/-! ===== the class's states: bytes ===== -/
section CBY
variable {σ τ ρ : MS} {k pl p f : Nat} {S T : ST} {u v : VL} {a r r0 : Int}
theorem bit_k : ∀ n : Fin 256, ∀ s : Fin 8, ((lShr (iL (n.val : Int)) (s.val : Int) &&& 1#64) = 0#64) ↔ ¬ (n.val.testBit s.val = true) := by decide +kernel
theorem or_k : ∀ n : Fin 256, ∀ s : Fin 8, iL (n.val : Int) ||| lShl 1#64 (s.val : Int) = iL ((n.val ||| 1 <<< s.val : Nat) : Int) := by decide +kernel
theorem bit_c {s : Nat} (h0 : 0 ≤ r) (h1 : r < 256) (hs : s < 8) : ((lShr (iL r) (s : Int) &&& BitVec.ofNat 64 1) = BitVec.ofNat 64 0) = ¬ (r.toNat.testBit s = true) := by
  obtain ⟨n, hn⟩ : ∃ n : Nat, r = (n : Int) := ⟨r.toNat, by omega⟩
  subst hn
  exact propext (bit_k ⟨n, by omega⟩ ⟨s, hs⟩)
theorem or_c {s : Nat} (h0 : 0 ≤ r) (h1 : r < 256) (hs : s < 8) : iL r ||| lShl (BitVec.ofNat 64 1) (s : Int) = iL ((r.toNat ||| 1 <<< s : Nat) : Int) := by
  obtain ⟨n, hn⟩ : ∃ n : Nat, r = (n : Int) := ⟨r.toNat, by omega⟩
  subst hn
  exact or_k ⟨n, by omega⟩ ⟨s, hs⟩
theorem ar_no {b n i : Nat} (hi : i < n) (h : ¬ setB S f (b + i)) : areS S f b n = false := by
  unfold areS
  exact List.all_eq_false.mpr ⟨i, List.mem_range.mpr hi, fun z => h (of_decide_eq_true z)⟩
theorem ar_yes {b n : Nat} (h : ∀ i, i < n → setB S f (b + i)) : areS S f b n = true := by
  unfold areS
  exact List.all_eq_true.mpr fun i hi => decide_eq_true (h i (List.mem_range.mp hi))
theorem T226 {b n : Nat} (h : isSt σ k) (hS : CSt σ k S) (hc : canS S) (hk : ∀ j, j < 26 * sF S → okK (sV S j)) (hF : sF S ≤ 4) (hf : f < sF S) (e : a + 128 = (b : Int)) (hn : b + n ≤ 128) : MM 226 [mR (some k), mL (iL (f : Int)), mL (iL a), mL (iL (n : Int))] σ = some (some (mI (b2 (areS S f b n = true))), σ) := by
  have key : ∀ j i : Nat, j + i = n → (∀ i', i' < i → setB S f (b + i')) → RR (lkB tb226) (B226_3, [some (mR (some k)), some (mL (iL (f : Int))), none, some (mL (iL a)), none, some (mL (iL (n : Int))), none, some (mL (iL (a + (i : Int)))), none, none, none], [], σ) = some (some (mI (b2 (areS S f b n = true))), σ) := by
    intro j
    induction j with
    | zero =>
      intro i ei hi
      have ei : i = n := by omega
      subst ei
      rw [e226_3, iLa, iLt (by omega) (by omega), if_pos (Int.le_refl _), b2_yes (ar_yes hi)]
    | succ j ih =>
      intro i ei hi
      have ih := ih (i + 1) (by omega)
      have e' : a + (i : Int) + 128 = ((b + i : Nat) : Int) := by omega
      have lt : 26 * f + 10 + (b + i) / 8 < 26 * sF S := prt_lt hf (by omega)
      have hv := hS.2.2.2.1 f ((b + i) / 8) hf (by omega)
      have cv := hc _ lt
      have kv := hk _ lt
      have l : 297 * f + 121 + 11 * ((b + i) / 8) + 11 ≤ 1188 := by omega
      have t13 := T213 (σ := σ) (show f < 4 by omega) e' (by omega)
      have sb : setB S f (b + i) ↔ if vk (sV S (26 * f + 10 + (b + i) / 8)) = 0 then (vr (sV S (26 * f + 10 + (b + i) / 8))).toNat.testBit ((b + i) % 8) = true else vk (sV S (26 * f + 10 + (b + i) / 8)) = 1 := Iff.rfl
      have nx : setB S f (b + i) → RR (lkB tb226) (B226_3, [some (mR (some k)), some (mL (iL (f : Int))), none, some (mL (iL a)), none, some (mL (iL (n : Int))), none, some (mL (iL (a + (i : Int)) + BitVec.ofNat 64 1)), none, none, none], [], σ) = some (some (mI (b2 (areS S f b n = true))), σ) := fun z => by
        have := ih (fun i' q => by
          by_cases c : i' = i
          · rw [c]; exact z
          · exact hi i' (by omega))
        have e1 : iL (a + (i : Int)) + BitVec.ofNat 64 1 = iL (a + ((i + 1 : Nat) : Int)) := by
          rw [show (BitVec.ofNat 64 1) = iL 1 from rfl, iLa]
          congr 1
          omega
        rw [e1]
        exact this
      generalize hp : 297 * f + 121 + 11 * ((b + i) / 8) = pl at *
      generalize sV S (26 * f + 10 + (b + i) / 8) = v at *
      have f82 : ∀ q : Prop, ∀ d : Decidable q, (q ↔ setB S f (b + i)) → RR (lkB tb226) (B226_82, [some (mR (some k)), some (mL (iL (f : Int))), none, some (mL (iL a)), none, some (mL (iL (n : Int))), none, some (mL (iL (a + (i : Int)))), none, some (mI (pl : Int)), none], [mI (@b2 q d)], σ) = some (some (mI (b2 (areS S f b n = true))), σ) := fun q d hq => by
        rw [e226_82]
        by_cases z : q
        · rw [if_pos (show ¬ @b2 q d = 0 by rw [b2_yes z]; decide)]
          exact RR_q (nx (hq.mp z)) (by repeat (first | exact lq_nil | refine lq_cons (Or.inr rfl) ?_ | refine lq_cons (Or.inl rfl) ?_))
        · rw [if_neg (not_not_intro (b2_no z)), b2_no (p := areS S f b n = true)]
          rw [ar_no (show i < n by omega) (fun y => z (hq.mpr y))]
          decide
      have f0 : ¬ setB S f (b + i) → RR (lkB tb226) (B226_82, [some (mR (some k)), some (mL (iL (f : Int))), none, some (mL (iL a)), none, some (mL (iL (n : Int))), none, some (mL (iL (a + (i : Int)))), none, some (mI (pl : Int)), none], [mI 0], σ) = some (some (mI (b2 (areS S f b n = true))), σ) := fun z => by
        have := f82 False inferInstance ⟨fun y => y.elim, z⟩
        rwa [b2_no (p := False) not_false] at this
      have f1 : setB S f (b + i) → RR (lkB tb226) (B226_82, [some (mR (some k)), some (mL (iL (f : Int))), none, some (mL (iL a)), none, some (mL (iL (n : Int))), none, some (mL (iL (a + (i : Int)))), none, some (mI (pl : Int)), none], [mI 1], σ) = some (some (mI (b2 (areS S f b n = true))), σ) := fun z => by
        have := f82 True inferInstance ⟨fun _ => z, fun _ => trivial⟩
        rwa [b2_yes (p := True) trivial] at this
      have k0 : (iL (vk v) = BitVec.ofNat 64 0) = (vk v = 0) := iL_z (by omega)
      have k1 : (iL (vk v) = BitVec.ofNat 64 1) = (vk v = 1) := iL_o (by omega)
      have s7 : lI (iL (a + (i : Int)) &&& iL 7) = (((b + i) % 8 : Nat) : Int) := by
        rw [an7 e' (by omega), lIi (by omega) (by omega)]
      have nl : ¬ (iL a + iL (n : Int)).toInt ≤ (iL (a + (i : Int))).toInt := by
        rw [iLa, iLt (by omega) (by omega), iLt (by omega) (by omega)]
        omega
      have w1 := w_pl (pl := pl) (c := 1) (by omega)
      have w1 : w32 ((pl : Int) + 1) = ((pl + 1 : Nat) : Int) := w1
      by_cases z : vk v = 0
      · have r1 : gL σ (k + 1 + 0) (pl + 1) = iL (vr v) := (rd_1 hv).trans (if_pos z)
        have bb := bit_c (s := (b + i) % 8) (cv.2.1 z).2.1 (by have := (cv.2.1 z).2.2; omega) (by omega)
        rw [if_pos z] at sb
        by_cases t : (vr v).toNat.testBit ((b + i) % 8) = true
        · simp only [e226_3, nl, t13, e226_19, Option.getD_some, Option.bind_some, Option.toList_some, Option.toList_none, List.cons_append, List.nil_append, and_self, and_true, true_and, false_and, and_false, ite_self, not_true_eq_false, not_false_eq_true, reduceIte, Nat.reduceEqDiff, ab_I, ab_L, ab_R, ao_I, ao_L, ao_R, gL_sL, gI_sI, gR_sR, gI_sL, gI_sR, gL_sI, gL_sR, gR_sI, gR_sL, aoS h, gSt h (show pl < 1188 by omega), gSt h (show pl + 1 < 1188 by omega), Int.toNat_natCast, rd_0 hv, k0, z, w1, r1, s7, bb, t]
          exact f1 (sb.mpr t)
        · simp only [e226_3, nl, t13, e226_19, Option.getD_some, Option.bind_some, Option.toList_some, Option.toList_none, List.cons_append, List.nil_append, and_self, and_true, true_and, false_and, and_false, ite_self, not_true_eq_false, not_false_eq_true, reduceIte, Nat.reduceEqDiff, ab_I, ab_L, ab_R, ao_I, ao_L, ao_R, gL_sL, gI_sI, gR_sR, gI_sL, gI_sR, gL_sI, gL_sR, gR_sI, gR_sL, aoS h, gSt h (show pl < 1188 by omega), gSt h (show pl + 1 < 1188 by omega), Int.toNat_natCast, rd_0 hv, k0, z, w1, r1, s7, bb, t]
          exact f0 (fun y => t (sb.mp y))
      · rw [if_neg z] at sb
        by_cases t : vk v = 1
        · simp only [e226_3, nl, t13, e226_19, Option.getD_some, Option.bind_some, Option.toList_some, Option.toList_none, List.cons_append, List.nil_append, and_self, and_true, true_and, false_and, and_false, ite_self, not_true_eq_false, not_false_eq_true, reduceIte, Nat.reduceEqDiff, ab_I, ab_L, ab_R, ao_I, ao_L, ao_R, gL_sL, gI_sI, gR_sR, gI_sL, gI_sR, gL_sI, gL_sR, gR_sI, gR_sL, aoS h, gSt h (show pl < 1188 by omega), Int.toNat_natCast, rd_0 hv, k0, k1, z, eq_true t]
          exact f1 (sb.mpr t)
        · simp only [e226_3, nl, t13, e226_19, Option.getD_some, Option.bind_some, Option.toList_some, Option.toList_none, List.cons_append, List.nil_append, and_self, and_true, true_and, false_and, and_false, ite_self, not_true_eq_false, not_false_eq_true, reduceIte, Nat.reduceEqDiff, ab_I, ab_L, ab_R, ao_I, ao_L, ao_R, gL_sL, gI_sI, gR_sR, gI_sL, gI_sR, gL_sI, gL_sR, gR_sI, gR_sL, aoS h, gSt h (show pl < 1188 by omega), Int.toNat_natCast, rd_0 hv, k0, k1, z, t]
          exact f0 (fun y => t (sb.mp y))
  have := key n 0 (by omega) (fun i' q => absurd q (Nat.not_lt_zero _))
  rw [M226, e226_0]
  have ea : a + ((0 : Nat) : Int) = a := by omega
  rw [ea] at this
  exact this
/-- a part's bytes are written -/
theorem cx_b (c : cxV τ σ k pl (bytV r0)) : cxV (sL τ (k + 1 + 0) (pl + 1) (iL r)) σ k pl (bytV r) := by
  obtain ⟨c1, c2, c3, c4⟩ := c
  refine ⟨c1, fun k' s q => ?_, c3, fun i hi => ?_⟩
  · rw [gL_sL, if_neg (by omega)]
    exact c2 k' s q
  · rw [gL_sL]
    by_cases i1 : i = 1
    · rw [if_pos ⟨rfl, by omega⟩, i1]
      rfl
    · rw [if_neg (by omega), c4 i hi]
      unfold enV
      rw [if_neg i1, if_neg i1]
      rfl
theorem cx_s (h : cAt σ k pl v) : cxV σ σ k pl v := ⟨fun _ _ => rfl, fun _ _ _ => rfl, rfl, h⟩
theorem cx_t {u w : VL} (h1 : cxV ρ τ k pl w) (h2 : cxV τ σ k pl u) : cxV ρ σ k pl w := ⟨fun k' s => (h1.1 k' s).trans (h2.1 k' s), fun k' s q => (h1.2.1 k' s q).trans (h2.2.1 k' s q), h1.2.2.1.trans h2.2.2.1, h1.2.2.2⟩
theorem unp_b (c : canV v) : unpV v = bytV (vr (unpV v)) := by
  unfold unpV
  by_cases z : vk v = 0
  · rw [if_pos z]
    exact (c.2.1 z).1
  · rw [if_neg z]
    rfl
/-- one byte: its part has bytes, and is set perhaps -/
theorem L227 {b c n i : Nat} {P : MS → Prop} (h : isSt τ k) (hT : CSt τ k T) (cT : canS T) (hk : ∀ j, j < 26 * sF T → okK (sV T j)) (hF : sF T ≤ 4) (hf : f < sF T) (e : a + 128 = (b : Int)) (hi : i < n) (hn : b + n ≤ 128) (hcn : c ≤ n)
    (nx : ∀ τ', crq τ' τ k → CSt τ' k (sF T, upV (sV T) (26 * f + 10 + (b + i) / 8) (if i < c then vR (unpV (sV T (26 * f + 10 + (b + i) / 8))) (((vr (unpV (sV T (26 * f + 10 + (b + i) / 8)))).toNat ||| 1 <<< ((b + i) % 8) : Nat) : Int) else unpV (sV T (26 * f + 10 + (b + i) / 8))), sB T, sH T) → okc (RR (lkB tb227) (B227_3, [some (mR (some k)), some (mL (iL (f : Int))), none, some (mL (iL a)), none, some (mL (iL (n : Int))), none, some (mL (iL (c : Int))), none, some (mL (iL (a + ((i + 1 : Nat) : Int)))), none, none, none], [], τ')) none P) :
    okc (RR (lkB tb227) (B227_3, [some (mR (some k)), some (mL (iL (f : Int))), none, some (mL (iL a)), none, some (mL (iL (n : Int))), none, some (mL (iL (c : Int))), none, some (mL (iL (a + (i : Int)))), none, none, none], [], τ)) none P := by
  have e' : a + (i : Int) + 128 = ((b + i : Nat) : Int) := by omega
  have lt : 26 * f + 10 + (b + i) / 8 < 26 * sF T := prt_lt hf (by omega)
  have q16 : (b + i) / 8 < 16 := by omega
  have hv := hT.2.2.2.1 f ((b + i) / 8) hf q16
  have cv := cT _ lt
  have kv := hk _ lt
  have l : 297 * f + 121 + 11 * ((b + i) / 8) + 11 ≤ 1188 := by omega
  have t13 := T213 (σ := τ) (show f < 4 by omega) e' (by omega)
  have wp : ∀ {τ' : MS} {u : VL}, cxV τ' τ k (297 * f + 121 + 11 * ((b + i) / 8)) u → CSt τ' k (sF T, upV (sV T) (26 * f + 10 + (b + i) / 8) u, sB T, sH T) := fun q => CSt_p hF hT hf q16 q
  have e1 : iL (a + (i : Int)) + BitVec.ofNat 64 1 = iL (a + ((i + 1 : Nat) : Int)) := by
    rw [show (BitVec.ofNat 64 1) = iL 1 from rfl, iLa]
    congr 1
    omega
  generalize hp : 297 * f + 121 + 11 * ((b + i) / 8) = pl at *
  generalize sV T (26 * f + 10 + (b + i) / 8) = v at *
  have k0 : (iL (vk v) = BitVec.ofNat 64 0) = (vk v = 0) := iL_z (by omega)
  have k1 : (iL (vk v) = BitVec.ofNat 64 1) = (vk v = 1) := iL_o (by omega)
  have s7 : lI (iL (a + (i : Int)) &&& iL 7) = (((b + i) % 8 : Nat) : Int) := by
    rw [an7 e' (by omega), lIi (by omega) (by omega)]
  have nl : ¬ (iL a + iL (n : Int)).toInt ≤ (iL (a + (i : Int))).toInt := by
    rw [iLa, iLt (by omega) (by omega), iLt (by omega) (by omega)]
    omega
  have nc : ((iL a + iL (c : Int)).toInt ≤ (iL (a + (i : Int))).toInt) = ¬ i < c := by
    rw [iLa, iLt (by omega) (by omega), iLt (by omega) (by omega)]
    apply propext
    omega
  have w1 : w32 ((pl : Int) + 1) = ((pl + 1 : Nat) : Int) := w_pl (pl := pl) (c := 1) (by omega)
  have uc := unp_c cv
  have ub := unp_b cv
  -- behind its having bytes
  have f79 : ∀ τ1 : MS, cxV τ1 τ k pl (unpV v) → okc (RR (lkB tb227) (B227_79, [some (mR (some k)), some (mL (iL (f : Int))), none, some (mL (iL a)), none, some (mL (iL (n : Int))), none, some (mL (iL (c : Int))), none, some (mL (iL (a + (i : Int)))), none, some (mI (pl : Int)), none], [], τ1)) none P := fun τ1 c1 => by
    have h1 := st_r c1.2.2.1 h
    by_cases ic : i < c
    · have r1 : gL τ1 (k + 1 + 0) (pl + 1) = iL (vr (unpV v)) := (rd_1 c1.2.2.2).trans (if_pos (unp_k v))
      have oo := or_c (s := (b + i) % 8) uc.1 uc.2 (by omega)
      have c2 : cxV (sL τ1 (k + 1 + 0) (pl + 1) (iL (((vr (unpV v)).toNat ||| 1 <<< ((b + i) % 8) : Nat) : Int))) τ k pl (vR (unpV v) (((vr (unpV v)).toNat ||| 1 <<< ((b + i) % 8) : Nat) : Int)) := by
        have z := cx_b (r := (((vr (unpV v)).toNat ||| 1 <<< ((b + i) % 8) : Nat) : Int)) (by rw [ub] at c1; exact c1)
        have ez : vR (unpV v) (((vr (unpV v)).toNat ||| 1 <<< ((b + i) % 8) : Nat) : Int) = bytV (((vr (unpV v)).toNat ||| 1 <<< ((b + i) % 8) : Nat) : Int) := by
          rw [show vR (unpV v) (((vr (unpV v)).toNat ||| 1 <<< ((b + i) % 8) : Nat) : Int) = vR (bytV (vr (unpV v))) (((vr (unpV v)).toNat ||| 1 <<< ((b + i) % 8) : Nat) : Int) by rw [← ub]]
          rfl
        rw [ez]
        exact z
      have n1 := nx _ (crq_c c2) (by rw [if_pos ic]; exact wp c2)
      simp only [e227_79, e227_110, Option.getD_some, Option.bind_some, Option.toList_some, Option.toList_none, List.cons_append, List.nil_append, and_self, and_true, true_and, false_and, and_false, ite_self, not_true_eq_false, not_false_eq_true, reduceIte, Nat.reduceEqDiff, ab_I, ab_L, ab_R, ao_I, ao_L, ao_R, gL_sL, gI_sI, gR_sR, gI_sL, gI_sR, gL_sI, gL_sR, gR_sI, gR_sL, nc, eq_true ic, aoS h1, gSt h1 (show pl + 1 < 1188 by omega), w1, Int.toNat_natCast, r1, s7, oo, e1]
      exact okc_q (by repeat (first | exact lq_nil | refine lq_cons (Or.inr rfl) ?_ | refine lq_cons (Or.inl rfl) ?_)) n1
    · have n1 := nx τ1 (crq_c c1) (by rw [if_neg ic]; exact wp c1)
      simp only [e227_79, e227_110, Option.getD_some, Option.bind_some, Option.toList_some, Option.toList_none, List.cons_append, List.nil_append, and_self, and_true, true_and, false_and, and_false, ite_self, not_true_eq_false, not_false_eq_true, reduceIte, Nat.reduceEqDiff, ab_I, ab_L, ab_R, ao_I, ao_L, ao_R, gL_sL, gI_sI, gR_sR, gI_sL, gI_sR, gL_sI, gL_sR, gR_sI, gR_sL, nc, eq_false ic, e1]
      exact okc_q (by repeat (first | exact lq_nil | refine lq_cons (Or.inr rfl) ?_ | refine lq_cons (Or.inl rfl) ?_)) n1
  by_cases z : vk v = 0
  · have u0 : unpV v = v := unp_0 z
    simp only [e227_3, nl, t13, e227_19, Option.getD_some, Option.bind_some, Option.toList_some, Option.toList_none, List.cons_append, List.nil_append, and_self, and_true, true_and, false_and, and_false, ite_self, not_true_eq_false, not_false_eq_true, reduceIte, Nat.reduceEqDiff, ab_I, ab_L, ab_R, ao_I, ao_L, ao_R, gL_sL, gI_sI, gR_sR, gI_sL, gI_sR, gL_sI, gL_sR, gR_sI, gR_sL, aoS h, gSt h (show pl < 1188 by omega), Int.toNat_natCast, rd_0 hv, k0, z]
    exact f79 τ (by rw [u0]; exact cx_s hv)
  · obtain ⟨τ', t15, c15, -⟩ := T215 h l
    have h15 := st_r c15.2.2.1 h
    have uz : unpV v = bytV (if vk v = 1 then 255 else 0) := if_neg z
    by_cases t : vk v = 1
    · rw [if_pos t] at uz
      have c2 : cxV (sL τ' (k + 1 + 0) (pl + 1) (iL 255)) τ k pl (unpV v) := by
        rw [uz]
        exact cx_b c15
      simp only [e227_3, nl, t13, e227_19, e227_50, e227_58, e227_78, Option.getD_some, Option.bind_some, Option.toList_some, Option.toList_none, List.cons_append, List.nil_append, and_self, and_true, true_and, false_and, and_false, ite_self, not_true_eq_false, not_false_eq_true, reduceIte, Nat.reduceEqDiff, ab_I, ab_L, ab_R, ao_I, ao_L, ao_R, gL_sL, gI_sI, gR_sR, gI_sL, gI_sR, gL_sI, gL_sR, gR_sI, gR_sL, aoS h, gSt h (show pl < 1188 by omega), Int.toNat_natCast, rd_0 hv, k0, k1, z, eq_true t, t15, aoS h15, w1, gSt h15 (show pl + 1 < 1188 by omega), Int.reduceEq]
      exact okc_q (by repeat (first | exact lq_nil | refine lq_cons (Or.inr rfl) ?_ | refine lq_cons (Or.inl rfl) ?_)) (f79 _ c2)
    · rw [if_neg t] at uz
      have c2 : cxV (sL τ' (k + 1 + 0) (pl + 1) (BitVec.ofNat 64 0)) τ k pl (unpV v) := by
        rw [uz]
        exact cx_b (r := 0) c15
      simp only [e227_3, nl, t13, e227_19, e227_50, e227_58, e227_78, Option.getD_some, Option.bind_some, Option.toList_some, Option.toList_none, List.cons_append, List.nil_append, and_self, and_true, true_and, false_and, and_false, ite_self, not_true_eq_false, not_false_eq_true, reduceIte, Nat.reduceEqDiff, ab_I, ab_L, ab_R, ao_I, ao_L, ao_R, gL_sL, gI_sI, gR_sR, gI_sL, gI_sR, gL_sI, gL_sR, gR_sI, gR_sL, aoS h, gSt h (show pl < 1188 by omega), Int.toNat_natCast, rd_0 hv, k0, k1, z, t, t15, aoS h15, w1, gSt h15 (show pl + 1 < 1188 by omega)]
      exact okc_q (by repeat (first | exact lq_nil | refine lq_cons (Or.inr rfl) ?_ | refine lq_cons (Or.inl rfl) ?_)) (f79 _ c2)
theorem put_kk {b n c j : Nat} (h : okK (sV S j)) : okK (sV (putB S f b n c) j) := by
  rw [put_v]
  split
  · show 0 ≤ vk (unpV (sV S j)) ∧ vk (unpV (sV S j)) ≤ 10
    rw [unp_k]
    decide
  · exact h
theorem put_F {b n c : Nat} : sF (putB S f b n c) = sF S := rfl
theorem put_st {b i c : Nat} (hc : canS S) (hp : 26 * f + 10 + (b + i) / 8 < 26 * sF S) (hm : c ≤ i) : (sF (putB S f b i c), upV (sV (putB S f b i c)) (26 * f + 10 + (b + i) / 8) (unpV (sV (putB S f b i c) (26 * f + 10 + (b + i) / 8))), sB (putB S f b i c), sH (putB S f b i c)) = putB S f b (i + 1) c := putB_u hm (unp_c (hc _ hp)).1
theorem T227 {b n c : Nat} (h : isSt σ k) (hS : CSt σ k S) (cS : canS S) (hk : ∀ j, j < 26 * sF S → okK (sV S j)) (hF : sF S ≤ 4) (hf : f < sF S) (e : a + 128 = (b : Int)) (hn : b + n ≤ 128) (hcn : c ≤ n) : okc (MM 227 [mR (some k), mL (iL (f : Int)), mL (iL a), mL (iL (n : Int)), mL (iL (c : Int))] σ) none (fun τ => CSt τ k (putB S f b n c) ∧ crq τ σ k) := by
  have key : ∀ (j i : Nat) (τ : MS), j + i = n → CSt τ k (putB S f b i (min i c)) → crq τ σ k → okc (RR (lkB tb227) (B227_3, [some (mR (some k)), some (mL (iL (f : Int))), none, some (mL (iL a)), none, some (mL (iL (n : Int))), none, some (mL (iL (c : Int))), none, some (mL (iL (a + (i : Int)))), none, none, none], [], τ)) none (fun τ => CSt τ k (putB S f b n c) ∧ crq τ σ k) := by
    intro j
    induction j with
    | zero =>
      intro i τ ei c1 c2
      have ei : i = n := by omega
      subst ei
      rw [show min i c = c by omega] at c1
      rw [e227_3, iLa, iLt (by omega) (by omega), if_pos (Int.le_refl _)]
      exact okc_s ⟨c1, c2⟩
    | succ j ih =>
      intro i τ ei c1 c2
      refine L227 (i := i) (st_r c2.2.2 h) c1 (can_put cS) (fun j hj => put_kk (hk j hj)) hF hf e (by omega) hn hcn fun τ' q1 q2 => ?_
      refine ih (i + 1) τ' (by omega) ?_ (crq_t q1 c2)
      have lt : 26 * f + 10 + (b + i) / 8 < 26 * sF S := prt_lt hf (by omega)
      by_cases ic : i < c
      · rw [if_pos ic, show min i c = i by omega] at q2
        rw [show min (i + 1) c = i + 1 by omega, ← one_a cS lt]
        exact q2
      · rw [if_neg ic, show min i c = c by omega] at q2
        rw [show min (i + 1) c = c by omega, ← put_st cS lt (by omega)]
        exact q2
  have := key n 0 σ (by omega) (by
    rw [show min 0 c = 0 by omega, putB_0]
    exact hS) (crq_r _ _)
  rw [M227, e227_0]
  have ea : a + ((0 : Nat) : Int) = a := by omega
  rw [ea] at this
  exact this
end CBY
-- FILE 81.call
/-! ===== the class's states: all VALUES; what is held ===== -/
/-- what the state at cell k holds has changed -/
def chq (τ σ : MS) (k : Nat) : Prop := (∀ k' s, ¬ (k' = k ∧ s = 4) → ¬ k' = k + 1 + 2 → gI τ k' s = gI σ k' s) ∧ (∀ k' s, gL τ k' s = gL σ k' s) ∧ τ.2.2 = σ.2.2
/-- the state at cell k has changed -/
def csq (τ σ : MS) (k : Nat) : Prop := (∀ k' s, ¬ (k' = k ∧ (s = 3 ∨ s = 4)) → ¬ k' = k + 1 + 1 → ¬ k' = k + 1 + 2 → gI τ k' s = gI σ k' s) ∧ (∀ k' s, ¬ k' = k + 1 + 0 → gL τ k' s = gL σ k' s) ∧ τ.2.2 = σ.2.2
section CAL
variable {a b c τ σ : MS} {k m n : Nat} {S : ST} {t : Int} {v : VL} {P : Nat → VL}
theorem csq_r (σ : MS) (k : Nat) : csq σ σ k := ⟨fun _ _ _ _ _ => rfl, fun _ _ _ => rfl, rfl⟩
theorem csq_t (h1 : csq a b k) (h2 : csq b c k) : csq a c k := ⟨fun k' s p q r => (h1.1 k' s p q r).trans (h2.1 k' s p q r), fun k' s p => (h1.2.1 k' s p).trans (h2.2.1 k' s p), h1.2.2.trans h2.2.2⟩
theorem csq_c (h : crq τ σ k) : csq τ σ k := ⟨fun k' s _ _ _ => h.1 k' s, h.2.1, h.2.2⟩
theorem csq_h (h : chq τ σ k) : csq τ σ k := ⟨fun k' s p _ r => h.1 k' s (fun z => p ⟨z.1, Or.inr z.2⟩) r, fun k' s _ => h.2.1 k' s, h.2.2⟩
/-- a loop over all places of a row -/
theorem loopP {R : Nat → MS → Option Rs} {g : VL → VL} {Q : MS → Prop}
    (step : ∀ m τ, m < n → crq τ σ k → cAt τ k (11 * m) (P m) → ∀ Z : MS → Prop, (∀ τ', cxV τ' τ k (11 * m) (g (P m)) → okc (R (m + 1) τ') none Z) → okc (R m τ) none Z)
    (fin : ∀ τ, crq τ σ k → cAl τ k n (fun i => g (P i)) → okc (R n τ) none Q) (hP : cAl σ k n P) : okc (R 0 σ) none Q := by
  have key : ∀ (j m : Nat) (τ : MS), j + m = n → crq τ σ k → cAl τ k n (fun i => if i < m then g (P i) else P i) → okc (R m τ) none Q := by
    intro j
    induction j with
    | zero =>
      intro m τ e q h
      have e : m = n := by omega
      subst e
      exact fin τ q (al_m (fun i hi => if_pos hi) h)
    | succ j ih =>
      intro m τ e q h
      have hm : m < n := by omega
      have hv := h m hm
      simp only [Nat.lt_irrefl, if_false] at hv
      refine step m τ hm q hv _ fun τ' c => ?_
      refine ih (m + 1) τ' (by omega) (crq_t (crq_c c) q) (al_m (fun i hi => ?_) (al_w c h))
      unfold upP
      by_cases e : i = m
      · rw [if_pos e, if_pos (by omega), e]
      · rw [if_neg e]
        by_cases d : i < m
        · rw [if_pos d, if_pos (by omega)]
        · rw [if_neg d, if_neg (by omega)]
  exact key n 0 σ (by omega) (crq_r _ _) (al_m (fun i hi => (if_neg (Nat.not_lt_zero i)).symm) hP)
theorem cHd_q (h : crq τ σ k) (c : cHd σ k S) : cHd τ k S := ⟨⟨(h.1 _ _).trans c.1.1, (h.1 _ _).trans c.1.2⟩, fun f h1 h2 => (h.1 _ _).trans (c.2.1 f h1 h2), fun j hj => (h.1 _ _).trans (c.2.2 j hj)⟩
theorem CSt_all {g : VL → VL} (hg : ∀ f : Nat, g (mkV 3 (f : Int) 0) = mkV 3 (f : Int) 0) (h : CSt σ k S) (q : crq τ σ k) (a : cAl τ k (27 * sF S) (fun i => g (plX S i))) : CSt τ k (allV S g) := by
  refine CSt_of (cHd_q q (cHd_of h)) (al_m (fun i hi => ?_) a)
  exact (plX_all hg hi).symm
theorem wF_27 (h4 : sF S ≤ 4) : w32 ((sF S : Int) * 297) = ((297 * sF S : Nat) : Int) := by
  rw [w32_i (by omega) (by omega)]
  omega
theorem le_27 (hm : m < 27 * sF S) : ¬ ((297 * sF S : Nat) : Int) ≤ ((11 * m : Nat) : Int) := by omega
theorem w11 (h : m < 1000) : w32 (((11 * m : Nat) : Int) + 11) = ((11 * (m + 1) : Nat) : Int) := by
  rw [w32_i (by omega) (by omega)]
  omega
/-- all VALUES of a row in bounds -/
def okX (S : ST) : Prop := ∀ m, m < 27 * sF S → okW (plX S m)
theorem okX_of {E : EV} {t : Int} (ho : okS E t S) (hc : canS S) (hx : xS S) (ht : t < 1000000) : okX S := fun m hm => by
  unfold plX
  have F := ho.1
  by_cases c : m % 27 = 10
  · rw [if_pos c]
    exact okW_3 (by omega)
  · rw [if_neg c]
    exact okW_S ho hc hx ht (by split <;> omega)
/-- packets are gone -/
theorem T232 (h : isSt σ k) (hS : CSt σ k S) (h4 : sF S ≤ 4) (hX : okX S) : okc (MM 232 [mR (some k)] σ) none (fun τ => CSt τ k (allV S pktV) ∧ crq τ σ k) := by
  rw [M232, e232_0]
  have key := loopP (σ := σ) (k := k) (n := 27 * sF S) (P := plX S) (g := pktV) (Q := fun τ => CSt τ k (allV S pktV) ∧ crq τ σ k) (R := fun m τ => RR (lkB tb232) (B232_2, [some (mR (some k)), some (mI ((11 * m : Nat) : Int))], [], τ)) ?_ ?_ (CSt_al hS)
  · exact key
  · intro m τ hm q hv Z nx
    have hτ := st_r q.2.2 h
    have g3 : gI τ k 3 = (sF S : Int) := (q.1 _ _).trans hS.1.1
    have b := hX m hm
    have l : 11 * m + 11 ≤ 1188 := by omega
    generalize plX S m = v at *
    have k7 : (iL (vk v) = iL 7) = (vk v = 7) := iL_e (by have := b.1; omega) (by decide)
    have k8 : (iL (vk v) = iL 8) = (vk v = 8) := iL_e (by have := b.1; omega) (by decide)
    have z11 := w11 (show m < 1000 by omega)
    have nl := le_27 hm
    have wF := wF_27 h4
    by_cases c : vk v = 7 ∨ vk v = 8
    · obtain ⟨τ', t15, c15, -⟩ := T215 hτ l
      have n := nx τ' (by unfold pktV; rw [if_pos c]; exact c15)
      by_cases c7 : vk v = 7
      · simp only [e232_2, e232_40, e232_45, Option.getD_some, Option.bind_some, Option.toList_some, Option.toList_none, List.cons_append, List.nil_append, and_self, and_true, true_and, false_and, and_false, ite_self, not_true_eq_false, not_false_eq_true, reduceIte, Nat.reduceEqDiff, ab_I, ab_L, ab_R, ao_I, ao_L, ao_R, gL_sL, gI_sI, gR_sR, gI_sL, gI_sR, gL_sI, gL_sR, gR_sI, gR_sL, aoS hτ, g3, wF, nl, gSt hτ (show 11 * m < 1188 by omega), Int.toNat_natCast, rd_0 hv, k7, eq_true c7, t15, z11]
        exact n
      · have c8 : vk v = 8 := by omega
        simp only [e232_2, e232_40, e232_45, Option.getD_some, Option.bind_some, Option.toList_some, Option.toList_none, List.cons_append, List.nil_append, and_self, and_true, true_and, false_and, and_false, ite_self, not_true_eq_false, not_false_eq_true, reduceIte, Nat.reduceEqDiff, ab_I, ab_L, ab_R, ao_I, ao_L, ao_R, gL_sL, gI_sI, gR_sR, gI_sL, gI_sR, gL_sI, gL_sR, gR_sI, gR_sL, aoS hτ, g3, wF, nl, gSt hτ (show 11 * m < 1188 by omega), Int.toNat_natCast, rd_0 hv, k7, k8, eq_false c7, eq_true c8, t15, z11]
        exact n
    · have n := nx τ (by unfold pktV; rw [if_neg c]; exact cx_s hv)
      have c7 : ¬ vk v = 7 := fun z => c (Or.inl z)
      have c8 : ¬ vk v = 8 := fun z => c (Or.inr z)
      simp only [e232_2, e232_45, Option.getD_some, Option.bind_some, Option.toList_some, Option.toList_none, List.cons_append, List.nil_append, and_self, and_true, true_and, false_and, and_false, ite_self, not_true_eq_false, not_false_eq_true, reduceIte, Nat.reduceEqDiff, ab_I, ab_L, ab_R, ao_I, ao_L, ao_R, gL_sL, gI_sI, gR_sR, gI_sL, gI_sR, gL_sI, gL_sR, gR_sI, gR_sL, aoS hτ, g3, wF, nl, gSt hτ (show 11 * m < 1188 by omega), Int.toNat_natCast, rd_0 hv, k7, k8, c7, c8, z11]
      exact n
  · intro τ q a
    have hτ := st_r q.2.2 h
    have g3 : gI τ k 3 = (sF S : Int) := (q.1 _ _).trans hS.1.1
    have nl : ((297 * sF S : Nat) : Int) ≤ ((11 * (27 * sF S) : Nat) : Int) := by omega
    simp only [e232_2, Option.getD_some, Option.bind_some, Option.toList_some, Option.toList_none, List.cons_append, List.nil_append, and_self, and_true, true_and, false_and, and_false, ite_self, not_true_eq_false, not_false_eq_true, reduceIte, Nat.reduceEqDiff, ab_I, ab_L, ab_R, ao_I, ao_L, ao_R, gL_sL, gI_sI, gR_sR, gI_sL, gI_sR, gL_sI, gL_sR, gR_sI, gR_sL, aoS hτ, g3, wF_27 h4, nl]
    exact okc_s ⟨CSt_all (fun f => rfl) hS q a, q⟩
/-- a packet's bytes -/
theorem T231 {o : Int} (h : isSt σ k) (hS : CSt σ k S) (h4 : sF S ≤ 4) (hX : okX S) (ht : -2147483648 ≤ t ∧ t < 2147483648) (ho : -100000 ≤ o ∧ o < 100000) : okc (MM 231 [mR (some k), mI t, mL (iL o)] σ) none (fun τ => CSt τ k (allV S (rchV t o)) ∧ crq τ σ k) := by
  rw [M231, e231_0]
  have key := loopP (σ := σ) (k := k) (n := 27 * sF S) (P := plX S) (g := rchV t o) (Q := fun τ => CSt τ k (allV S (rchV t o)) ∧ crq τ σ k) (R := fun m τ => RR (lkB tb231) (B231_3, [some (mR (some k)), some (mI t), some (mL (iL o)), none, some (mI ((11 * m : Nat) : Int))], [], τ)) ?_ ?_ (CSt_al hS)
  · exact key
  · intro m τ hm q hv Z nx
    have hτ := st_r q.2.2 h
    have g3 : gI τ k 3 = (sF S : Int) := (q.1 _ _).trans hS.1.1
    have b := hX m hm
    have cv := (hX m hm).2.2.2.2.2
    have rv := (hX m hm).2.2.2.2.1.2
    have l : 11 * m + 11 ≤ 1188 := by omega
    generalize plX S m = v at *
    have k7 : (iL (vk v) = iL 7) = (vk v = 7) := iL_e (by have := b.1; omega) (by decide)
    have kt : (iL (vt v) = iL t) = (vt v = t) := iL_e (by have := b.2.1; omega) ht
    have z11 := w11 (show m < 1000 by omega)
    have nl := le_27 hm
    have wF := wF_27 h4
    have w10 : w32 (((11 * m : Nat) : Int) + 10) = ((11 * m + 10 : Nat) : Int) := w_pl (pl := 11 * m) (c := 10) (by omega)
    have w9 : w32 (((11 * m : Nat) : Int) + 9) = ((11 * m + 9 : Nat) : Int) := w_pl (pl := 11 * m) (c := 9) (by omega)
    by_cases c7 : vk v = 7
    · by_cases ct : vt v = t
      · have r0 := cv.2.2.2.2.2 c7
        have k0 : ¬ vk v = 0 := by omega
        have rd : gL τ (k + 1 + 0) (11 * m + 9) = iL (vr v) := by rw [rd_9 hv cv, if_neg k0]
        have sm : smax (iL (vr v)) (iL o) = iL (if vr v < o then o else vr v) := by
          unfold smax
          rw [iLt (by omega) (by omega), iLt (by omega) (by omega)]
          split <;> split <;> first | rfl | (exfalso; omega)
        have er : rchV t o v = vR v (if vr v < o then o else vr v) := by
          unfold rchV
          by_cases lo : vr v < o
          · rw [if_pos ⟨c7, ct, lo⟩, if_pos lo]
          · rw [if_neg (fun z => lo z.2.2), if_neg lo]
        have n := nx (sL τ (k + 1 + 0) (11 * m + 9) (iL (if vr v < o then o else vr v))) (by
          rw [er]
          refine ⟨fun _ _ => rfl, fun k' s p => ?_, rfl, fun i hi => ?_⟩
          · rw [gL_sL, if_neg (by omega)]
          · rw [gL_sL]
            by_cases i9 : i = 9
            · rw [if_pos ⟨rfl, by omega⟩, i9]
              show _ = (if vk v = 0 then 0#64 else iL (if vr v < o then o else vr v))
              rw [if_neg k0]
            · rw [if_neg (by omega), hv i hi]
              unfold enV
              rw [if_neg i9, if_neg i9, if_neg k0]
              show _ = if i = 0 then iL (vk v) else if i = 1 then (if vk v = 0 then iL (if vr v < o then o else vr v) else jV (vn v)) else _
              rw [if_neg k0])
        have t71 := T571 (σ := τ) (x0 := iL (vr v)) (x2 := iL o)
        rw [sm] at t71
        simp only [e231_3, e231_69, e231_70, Option.getD_some, Option.bind_some, Option.toList_some, Option.toList_none, List.cons_append, List.nil_append, and_self, and_true, true_and, false_and, and_false, ite_self, not_true_eq_false, not_false_eq_true, reduceIte, Nat.reduceEqDiff, ab_I, ab_L, ab_R, ao_I, ao_L, ao_R, gL_sL, gI_sI, gR_sR, gI_sL, gI_sR, gL_sI, gL_sR, gR_sI, gR_sL, aoS hτ, g3, wF, nl, gSt hτ (show 11 * m < 1188 by omega), gSt hτ (show 11 * m + 10 < 1188 by omega), gSt hτ (show 11 * m + 9 < 1188 by omega), w10, w9, Int.toNat_natCast, rd_0 hv, rd_10 hv, rd, k7, kt, eq_true c7, eq_true ct, t71, z11]
        exact n
      · have n := nx τ (by unfold rchV; rw [if_neg (fun z => ct z.2.1)]; exact cx_s hv)
        simp only [e231_3, e231_70, Option.getD_some, Option.bind_some, Option.toList_some, Option.toList_none, List.cons_append, List.nil_append, and_self, and_true, true_and, false_and, and_false, ite_self, not_true_eq_false, not_false_eq_true, reduceIte, Nat.reduceEqDiff, ab_I, ab_L, ab_R, ao_I, ao_L, ao_R, gL_sL, gI_sI, gR_sR, gI_sL, gI_sR, gL_sI, gL_sR, gR_sI, gR_sL, aoS hτ, g3, wF, nl, gSt hτ (show 11 * m < 1188 by omega), gSt hτ (show 11 * m + 10 < 1188 by omega), w10, Int.toNat_natCast, rd_0 hv, rd_10 hv, k7, kt, eq_true c7, ct, z11]
        exact n
    · have n := nx τ (by unfold rchV; rw [if_neg (fun z => c7 z.1)]; exact cx_s hv)
      simp only [e231_3, e231_70, Option.getD_some, Option.bind_some, Option.toList_some, Option.toList_none, List.cons_append, List.nil_append, and_self, and_true, true_and, false_and, and_false, ite_self, not_true_eq_false, not_false_eq_true, reduceIte, Nat.reduceEqDiff, ab_I, ab_L, ab_R, ao_I, ao_L, ao_R, gL_sL, gI_sI, gR_sR, gI_sL, gI_sR, gL_sI, gL_sR, gR_sI, gR_sL, aoS hτ, g3, wF, nl, gSt hτ (show 11 * m < 1188 by omega), Int.toNat_natCast, rd_0 hv, k7, c7, z11]
      exact n
  · intro τ q a
    have hτ := st_r q.2.2 h
    have g3 : gI τ k 3 = (sF S : Int) := (q.1 _ _).trans hS.1.1
    have nl : ((297 * sF S : Nat) : Int) ≤ ((11 * (27 * sF S) : Nat) : Int) := by omega
    simp only [e231_3, Option.getD_some, Option.bind_some, Option.toList_some, Option.toList_none, List.cons_append, List.nil_append, and_self, and_true, true_and, false_and, and_false, ite_self, not_true_eq_false, not_false_eq_true, reduceIte, Nat.reduceEqDiff, ab_I, ab_L, ab_R, ao_I, ao_L, ao_R, gL_sL, gI_sI, gR_sR, gI_sL, gI_sR, gL_sI, gL_sR, gR_sI, gR_sL, aoS hτ, g3, wF_27 h4, nl]
    exact okc_s ⟨CSt_all (fun f => if_neg (fun z => absurd (show (3 : Int) = 7 from z.1) (by decide))) hS q a, q⟩
/-- one more is held -/
theorem T228 (h : isSt σ k) (hS : CSt σ k S) (hn : (sH S).length < 64) : okc (MM 228 [mR (some k), mI t] σ) (some (mI 1)) (fun τ => CSt τ k (sF S, sV S, sB S, sH S ++ [t]) ∧ chq τ σ k) := by
  obtain ⟨⟨f3, f4⟩, v1, v2, v3, v4, v5⟩ := hS
  have lt : ((sH S).length : Int) < 64 := by omega
  have ab3 : ab σ 3 (k + 1 + 2) ((sH S).length : Int) = True := eq_true ((abH h (i := ((sH S).length : Int))).mpr ⟨Int.natCast_nonneg _, lt⟩).2
  have w := w32_s (m := (sH S).length) (by omega)
  have ne : ¬ (k = k + 1 + 2) := by omega
  refine okc_o (τ := sI (sI σ (k + 1 + 2) (sH S).length t) k 4 (((sH S).length + 1 : Nat) : Int)) ?_ ⟨⟨⟨?_, ?_⟩, v1, v2, v3, fun f h1 h2 => ?_, fun j hj => ?_⟩, fun k' s p q => ?_, fun _ _ => rfl, rfl⟩
  · simp only [M228, e228_0, Option.getD_some, Option.bind_some, Option.toList_some, Option.toList_none, List.cons_append, List.nil_append, and_self, and_true, true_and, false_and, and_false, ite_self, not_true_eq_false, not_false_eq_true, reduceIte, Nat.reduceEqDiff, ab_I, ab_L, ab_R, ao_I, ao_L, ao_R, gL_sL, gI_sI, gR_sR, gI_sL, gI_sR, gL_sI, gL_sR, gR_sI, gR_sL, aoS h, f4, lt, ab3, Option.isSome_some, Int.toNat_natCast, ne, w]
  · rw [gI_sI, if_neg (by omega), gI_sI, if_neg (by omega)]
    exact f3
  · rw [gI_sI, if_pos ⟨rfl, rfl⟩]
    show _ = (((sH S ++ [t]).length : Nat) : Int)
    rw [List.length_append]
    rfl
  · rw [gI_sI, if_neg (by omega), gI_sI, if_neg (by omega)]
    exact v4 f h1 h2
  · have hj : j < (sH S ++ [t]).length := hj
    rw [List.length_append] at hj
    have hj : j < (sH S).length + 1 := hj
    rw [gI_sI, if_neg (by omega), gI_sI]
    show _ = (sH S ++ [t]).getD j 0
    by_cases e : j = (sH S).length
    · rw [if_pos ⟨rfl, e⟩, e, getD_end]
    · rw [if_neg (fun z => e z.2), getD_app (by omega)]
      exact v5 j (by omega)
  · rw [gI_sI, if_neg p, gI_sI, if_neg (fun z => q z.1)]
theorem T228n (h : isSt σ k) (hS : CSt σ k S) (hn : (sH S).length = 64) : MM 228 [mR (some k), mI t] σ = some (some (mI 0), σ) := by
  have f4 := hS.1.2
  rw [hn] at f4
  have lt : ¬ ((64 : Nat) : Int) < 64 := by decide
  simp only [M228, e228_0, Option.getD_some, Option.bind_some, Option.toList_some, Option.toList_none, List.cons_append, List.nil_append, and_self, and_true, true_and, false_and, and_false, ite_self, not_true_eq_false, not_false_eq_true, reduceIte, Nat.reduceEqDiff, ab_I, ab_L, ab_R, ao_I, ao_L, ao_R, gL_sL, gI_sI, gR_sR, gI_sL, gI_sR, gL_sI, gL_sR, gR_sI, gR_sL, aoS h, f4, lt]
/-- no longer held -/
theorem T229 (h : isSt σ k) (hS : CSt σ k S) (hH : (sH S).length ≤ 64) : okc (MM 229 [mR (some k), mI t] σ) none (fun τ => CSt τ k (relH S t) ∧ chq τ σ k) := by
  obtain ⟨⟨f3, f4⟩, v1, v2, v3, v4, v5⟩ := hS
  obtain ⟨p, hp⟩ : ∃ p : Int → Bool, p = fun h => decide (¬ h = t) := ⟨_, rfl⟩
  have key : ∀ (j m : Nat) (τ : MS), j + m = (sH S).length → (∀ i, i < ((sH S).take m |>.filter p).length → gI τ (k + 1 + 2) i = ((sH S).take m |>.filter p).getD i 0) → (∀ i, m ≤ i → gI τ (k + 1 + 2) i = gI σ (k + 1 + 2) i) → (∀ k' s, ¬ k' = k + 1 + 2 → gI τ k' s = gI σ k' s) → (∀ k' s, gL τ k' s = gL σ k' s) → τ.2.2 = σ.2.2 → okc (RR (lkB tb229) (B229_4, [some (mR (some k)), some (mI t), some (mI ((((sH S).take m |>.filter p).length : Nat) : Int)), some (mI (m : Int))], [], τ)) none (fun τ => CSt τ k (relH S t) ∧ chq τ σ k) := by
    intro j
    induction j with
    | zero =>
      intro m τ e a1 a2 a3 a4 a5
      have e : m = (sH S).length := by omega
      have hτ := st_r a5 h
      have l : gI τ k 4 = ((sH S).length : Int) := (a3 _ _ (by omega)).trans f4
      have le : ((sH S).length : Int) ≤ (m : Int) := by omega
      have tk : (sH S).take m = sH S := by rw [e]; exact List.take_length
      rw [tk] at a1 ⊢
      simp only [e229_4, Option.getD_some, Option.bind_some, Option.toList_some, Option.toList_none, List.cons_append, List.nil_append, and_self, and_true, true_and, false_and, and_false, ite_self, not_true_eq_false, not_false_eq_true, reduceIte, Nat.reduceEqDiff, ab_I, ab_L, ab_R, ao_I, ao_L, ao_R, gL_sL, gI_sI, gR_sR, gI_sL, gI_sR, gL_sI, gL_sR, gR_sI, gR_sL, aoS hτ, l, le]
      refine okc_s ⟨⟨⟨?_, ?_⟩, fun f r hf hr i hi => ?_, fun f hf i hi => ?_, fun f q hf hq i hi => ?_, fun f h1 h2 => ?_, fun i hi => ?_⟩, fun k' s q1 q2 => ?_, a4, a5⟩
      · rw [gI_sI, if_neg (by omega), a3 _ _ (by omega)]
        exact f3
      · rw [gI_sI, if_pos ⟨rfl, rfl⟩, hp]
        rfl
      · rw [gL_sI, a4]
        exact v1 f r hf hr i hi
      · rw [gL_sI, a4]
        exact v2 f hf i hi
      · rw [gL_sI, a4]
        exact v3 f q hf hq i hi
      · rw [gI_sI, if_neg (by omega), a3 _ _ (by omega)]
        exact v4 f h1 h2
      · rw [gI_sI, if_neg (by omega)]
        rw [hp] at a1
        exact a1 i hi
      · rw [gI_sI, if_neg q1]
        exact a3 k' s q2
    | succ j ih =>
      intro m τ e a1 a2 a3 a4 a5
      have hτ := st_r a5 h
      have lm : m < (sH S).length := by omega
      have l : gI τ k 4 = ((sH S).length : Int) := (a3 _ _ (by omega)).trans f4
      have hm : gI τ (k + 1 + 2) m = (sH S).getD m 0 := by
        rw [a2 m (Nat.le_refl _)]
        exact v5 m lm
      have ls : ((sH S).take m |>.filter p).length ≤ m := by
        have := List.length_filter_le p ((sH S).take m)
        rw [List.length_take] at this
        omega
      have fs := fil_s (p := p) lm
      have e1 : j + (m + 1) = (sH S).length := by omega
      have nl : ¬ (((sH S).length : Nat) : Int) ≤ (m : Int) := by omega
      have c6 : ((sH S).take m |>.filter p).length < 64 := by omega
      generalize eL : ((sH S).take m |>.filter p) = L at *
      have b1 : (Option.isSome (some (k + 1 + 2)) = true ∧ ab τ 3 (k + 1 + 2) (m : Int)) = True := eq_true ((abH hτ).mpr ⟨Int.natCast_nonneg _, Int.ofNat_lt.mpr (Nat.lt_of_lt_of_le lm hH)⟩)
      have b2' : (Option.isSome (some (k + 1 + 2)) = true ∧ ab τ 3 (k + 1 + 2) (L.length : Int)) = True := eq_true ((abH hτ).mpr ⟨Int.natCast_nonneg _, Int.ofNat_lt.mpr c6⟩)
      have m1 : m < 100000 := Nat.lt_of_lt_of_le lm (Nat.le_trans hH (by decide))
      have m2 : L.length < 100000 := Nat.lt_of_lt_of_le c6 (by decide)
      by_cases q : (sH S).getD m 0 = t
      · have pf : ¬ p ((sH S).getD m 0) = true := by rw [hp, q]; simp
        rw [if_neg pf, List.append_nil] at fs
        have := ih (m + 1) τ e1 (by rw [fs]; exact a1) (fun i hi => a2 i (Nat.le_of_succ_le hi)) a3 a4 a5
        rw [fs] at this
        simp only [e229_4, e229_37, Option.getD_some, Option.bind_some, Option.toList_some, Option.toList_none, List.cons_append, List.nil_append, and_self, and_true, true_and, false_and, and_false, ite_self, not_true_eq_false, not_false_eq_true, reduceIte, Nat.reduceEqDiff, ab_I, ab_L, ab_R, ao_I, ao_L, ao_R, gL_sL, gI_sI, gR_sR, gI_sL, gI_sR, gL_sI, gL_sR, gR_sI, gR_sL, aoS hτ, l, nl, b1, Int.toNat_natCast, hm, eq_true q, w32_s m1]
        exact this
      · have pt : p ((sH S).getD m 0) = true := by rw [hp]; exact decide_eq_true q
        rw [if_pos pt] at fs
        have len : L.length + 1 = ((sH S).take (m + 1) |>.filter p).length := by
          rw [fs, List.length_append]
          rfl
        simp only [e229_4, e229_37, Option.getD_some, Option.bind_some, Option.toList_some, Option.toList_none, List.cons_append, List.nil_append, and_self, and_true, true_and, false_and, and_false, ite_self, not_true_eq_false, not_false_eq_true, reduceIte, Nat.reduceEqDiff, ab_I, ab_L, ab_R, ao_I, ao_L, ao_R, gL_sL, gI_sI, gR_sR, gI_sL, gI_sR, gL_sI, gL_sR, gR_sI, gR_sL, aoS hτ, l, nl, b1, b2', Int.toNat_natCast, hm, eq_false q, w32_s m1, w32_s m2]
        rw [len]
        refine ih (m + 1) _ e1 (fun i hi => ?_) (fun i hi => ?_) (fun k' s r => ?_) a4 a5
        · rw [fs] at hi ⊢
          rw [List.length_append] at hi
          have hi : i < L.length + 1 := hi
          rw [gI_sI]
          by_cases z : i = L.length
          · rw [if_pos ⟨rfl, z⟩, z, getD_end]
          · have i2 : i < L.length := Nat.lt_of_le_of_ne (Nat.le_of_lt_succ hi) z
            rw [if_neg (fun y => z y.2), getD_app i2]
            exact a1 i i2
        · have i3 : ¬ (k + 1 + 2 = k + 1 + 2 ∧ i = L.length) := fun y => absurd (Nat.le_trans hi (Nat.le_of_eq y.2)) (Nat.not_le_of_lt (Nat.lt_succ_of_le ls))
          rw [gI_sI, if_neg i3]
          exact a2 i (Nat.le_of_succ_le hi)
        · rw [gI_sI, if_neg (fun y => r y.1)]
          exact a3 k' s r
  rw [M229, e229_0]
  have := key (sH S).length 0 σ (by omega) (fun i hi => by simp at hi) (fun _ _ => rfl) (fun _ _ _ => rfl) (fun _ _ => rfl) rfl
  exact this
theorem st_h {S : ST} (q : chq τ σ k) (h : isSt σ k) : isSt τ k := st_r q.2.2 h
/-- a record is given back -/
theorem T233 (h : isSt σ k) (hS : CSt σ k S) (h4 : sF S ≤ 4) (hX : okX S) (hH : (sH S).length ≤ 64) (ht : -2147483648 ≤ t ∧ t < 2147483648) : okc (MM 233 [mR (some k), mI t] σ) none (fun τ => CSt τ k (allV (relH S t) (recV t)) ∧ csq τ σ k) := by
  obtain ⟨σ1, e1, c1, q1⟩ := T229 (t := t) h hS hH
  have h1 := st_r q1.2.2 h
  have s7 : MM 233 [mR (some k), mI t] σ = RR (lkB tb233) (B233_7, [some (mR (some k)), some (mI t), some (mI ((11 * 0 : Nat) : Int))], [], σ1) := by
    simp only [M233, e233_0, e233_5, Option.getD_some, Option.bind_some, Option.toList_some, Option.toList_none, List.cons_append, List.nil_append, and_self, and_true, true_and, false_and, and_false, ite_self, not_true_eq_false, not_false_eq_true, reduceIte, Nat.reduceEqDiff, ab_I, ab_L, ab_R, ao_I, ao_L, ao_R, gL_sL, gI_sI, gR_sR, gI_sL, gI_sR, gL_sI, gL_sR, gR_sI, gR_sL, aoS h, e1]
    rfl
  rw [s7]
  have hX : okX (relH S t) := hX
  have h4 : sF (relH S t) ≤ 4 := h4
  have key := loopP (σ := σ1) (k := k) (n := 27 * sF (relH S t)) (P := plX (relH S t)) (g := recV t) (Q := fun τ => CSt τ k (allV (relH S t) (recV t)) ∧ csq τ σ k) (R := fun m τ => RR (lkB tb233) (B233_7, [some (mR (some k)), some (mI t), some (mI ((11 * m : Nat) : Int))], [], τ)) ?_ ?_ (CSt_al c1)
  · exact key
  · intro m τ hm q hv Z nx
    have hτ := st_r q.2.2 h1
    have g3 : gI τ k 3 = (sF (relH S t) : Int) := (q.1 _ _).trans c1.1.1
    have b := hX m hm
    have l : 11 * m + 11 ≤ 1188 := by omega
    generalize plX (relH S t) m = v at *
    have k9 : (iL (vk v) = iL 9) = (vk v = 9) := iL_e (by have := b.1; omega) (by decide)
    have kt : (iL (vt v) = iL t) = (vt v = t) := iL_e (by have := b.2.1; omega) ht
    have z11 := w11 (show m < 1000 by omega)
    have nl := le_27 hm
    have wF := wF_27 h4
    have w10 : w32 (((11 * m : Nat) : Int) + 10) = ((11 * m + 10 : Nat) : Int) := w_pl (pl := 11 * m) (c := 10) (by omega)
    by_cases c9 : vk v = 9
    · by_cases ct : vt v = t
      · obtain ⟨τ', t15, c15, -⟩ := T215 hτ l
        have n := nx τ' (by unfold recV; rw [if_pos ⟨c9, ct⟩]; exact c15)
        simp only [e233_7, e233_52, Option.getD_some, Option.bind_some, Option.toList_some, Option.toList_none, List.cons_append, List.nil_append, and_self, and_true, true_and, false_and, and_false, ite_self, not_true_eq_false, not_false_eq_true, reduceIte, Nat.reduceEqDiff, ab_I, ab_L, ab_R, ao_I, ao_L, ao_R, gL_sL, gI_sI, gR_sR, gI_sL, gI_sR, gL_sI, gL_sR, gR_sI, gR_sL, aoS hτ, g3, wF, nl, gSt hτ (show 11 * m < 1188 by omega), gSt hτ (show 11 * m + 10 < 1188 by omega), w10, Int.toNat_natCast, rd_0 hv, rd_10 hv, k9, kt, eq_true c9, eq_true ct, t15, z11]
        exact n
      · have n := nx τ (by unfold recV; rw [if_neg (fun z => ct z.2)]; exact cx_s hv)
        simp only [e233_7, e233_52, Option.getD_some, Option.bind_some, Option.toList_some, Option.toList_none, List.cons_append, List.nil_append, and_self, and_true, true_and, false_and, and_false, ite_self, not_true_eq_false, not_false_eq_true, reduceIte, Nat.reduceEqDiff, ab_I, ab_L, ab_R, ao_I, ao_L, ao_R, gL_sL, gI_sI, gR_sR, gI_sL, gI_sR, gL_sI, gL_sR, gR_sI, gR_sL, aoS hτ, g3, wF, nl, gSt hτ (show 11 * m < 1188 by omega), gSt hτ (show 11 * m + 10 < 1188 by omega), w10, Int.toNat_natCast, rd_0 hv, rd_10 hv, k9, kt, eq_true c9, ct, z11]
        exact n
    · have n := nx τ (by unfold recV; rw [if_neg (fun z => c9 z.1)]; exact cx_s hv)
      simp only [e233_7, e233_52, Option.getD_some, Option.bind_some, Option.toList_some, Option.toList_none, List.cons_append, List.nil_append, and_self, and_true, true_and, false_and, and_false, ite_self, not_true_eq_false, not_false_eq_true, reduceIte, Nat.reduceEqDiff, ab_I, ab_L, ab_R, ao_I, ao_L, ao_R, gL_sL, gI_sI, gR_sR, gI_sL, gI_sR, gL_sI, gL_sR, gR_sI, gR_sL, aoS hτ, g3, wF, nl, gSt hτ (show 11 * m < 1188 by omega), Int.toNat_natCast, rd_0 hv, k9, c9, z11]
      exact n
  · intro τ q a
    have hτ := st_r q.2.2 h1
    have g3 : gI τ k 3 = (sF (relH S t) : Int) := (q.1 _ _).trans c1.1.1
    have nl : ((297 * sF (relH S t) : Nat) : Int) ≤ ((11 * (27 * sF (relH S t)) : Nat) : Int) := by omega
    simp only [e233_7, Option.getD_some, Option.bind_some, Option.toList_some, Option.toList_none, List.cons_append, List.nil_append, and_self, and_true, true_and, false_and, and_false, ite_self, not_true_eq_false, not_false_eq_true, reduceIte, Nat.reduceEqDiff, ab_I, ab_L, ab_R, ao_I, ao_L, ao_R, gL_sL, gI_sI, gR_sR, gI_sL, gI_sR, gL_sI, gL_sR, gR_sI, gR_sL, aoS hτ, g3, wF_27 h4, nl]
    exact okc_s ⟨CSt_all (fun f => if_neg (fun z => absurd (show (3 : Int) = 9 from z.1) (by decide))) c1 q a, csq_t (csq_c q) (csq_h q1)⟩
/-- what was perhaps 0 is 0, or is not -/
theorem T230 {j : Nat} {z : Int} (h : isSt σ k) (hS : CSt σ k S) (h4 : sF S ≤ 4) (hX : okX S) (hH : (sH S).length ≤ 64) (ht : -2147483648 ≤ t ∧ t < 2147483648) (hj : isNm σ j) (hne : ¬ j = k + 1 + 0) (hz : rC σ j = cstN 0#64) (z01 : z = 0 ∨ z = 1) : okc (MM 230 [mR (some k), mI t, mI z, mR (some j)] σ) none (fun τ => CSt τ k (if z = 1 then relH (allV S (zerV t)) t else allV S (plcV t)) ∧ csq τ σ k) := by
  rw [M230, e230_0]
  have key := loopP (σ := σ) (k := k) (n := 27 * sF S) (P := plX S) (g := if z = 1 then zerV t else plcV t) (Q := fun τ => CSt τ k (if z = 1 then relH (allV S (zerV t)) t else allV S (plcV t)) ∧ csq τ σ k) (R := fun m τ => RR (lkB tb230) (B230_3, [some (mR (some k)), some (mI t), some (mI z), some (mR (some j)), some (mI ((11 * m : Nat) : Int)), none], [], τ)) ?_ ?_ (CSt_al hS)
  · exact key
  · intro m τ hm q hv Z nx
    have hτ := st_r q.2.2 h
    have hjτ : isNm τ j := (kd_r q.2.2).trans hj
    have rj : rC τ j = cstN 0#64 := by
      rw [← hz]
      unfold rC
      rw [q.2.1 _ _ hne, q.2.1 _ _ hne, q.2.1 _ _ hne, q.2.1 _ _ hne, q.2.1 _ _ hne, q.2.1 _ _ hne]
    have g3 : gI τ k 3 = (sF S : Int) := (q.1 _ _).trans hS.1.1
    have b := hX m hm
    have l : 11 * m + 11 ≤ 1188 := by omega
    generalize plX S m = v at *
    have k6 : (iL (vk v) = iL 6) = (vk v = 6) := iL_e (by have := b.1; omega) (by decide)
    have k10 : (iL (vk v) = iL 10) = (vk v = 10) := iL_e (by have := b.1; omega) (by decide)
    have kt : (iL (vt v) = iL t) = (vt v = t) := iL_e (by have := b.2.1; omega) ht
    have z11 := w11 (show m < 1000 by omega)
    have nl := le_27 hm
    have wF := wF_27 h4
    have w10 : w32 (((11 * m : Nat) : Int) + 10) = ((11 * m + 10 : Nat) : Int) := w_pl (pl := 11 * m) (c := 10) (by omega)
    have w8 : w32 (((11 * m : Nat) : Int) + 8) = ((11 * m + 8 : Nat) : Int) := w_pl (pl := 11 * m) (c := 8) (by omega)
    have gd0 := gSt hτ (show 11 * m < 1188 by omega)
    have gd8 := gSt hτ (show 11 * m + 8 < 1188 by omega)
    have gd10 := gSt hτ (show 11 * m + 10 < 1188 by omega)
    by_cases c : isMb v ∧ vt v = t
    · obtain ⟨c, ct⟩ := c
      rcases z01 with z0 | z1
      · have nz : ¬ z = 1 := by omega
        rw [if_neg nz] at nx
        by_cases c6 : vk v = 6
        · obtain ⟨τ', e17, c17⟩ := T217 (kn := 5) (w := vw v) (t := 0) hτ l
          have n := nx τ' (by unfold plcV; rw [if_pos ⟨c, ct⟩, if_pos c6, if_pos c6]; exact c17)
          simp only [e230_3, e230_35, e230_72, e230_100, e230_120, e230_123, Option.getD_some, Option.bind_some, Option.toList_some, Option.toList_none, List.cons_append, List.nil_append, and_self, and_true, true_and, false_and, and_false, ite_self, not_true_eq_false, not_false_eq_true, reduceIte, Nat.reduceEqDiff, ab_I, ab_L, ab_R, ao_I, ao_L, ao_R, gL_sL, gI_sI, gR_sR, gI_sL, gI_sR, gL_sI, gL_sR, gR_sI, gR_sL, aoS hτ, g3, wF, nl, gd0, gd8, gd10, w10, w8, Int.toNat_natCast, rd_0 hv, rd_10 hv, rd_8 hv, k6, k10, kt, eq_true c6, eq_true ct, z0, e17, z11, Int.reduceEq]
          rw [z0] at n
          exact okc_q (by repeat (first | exact lq_nil | refine lq_cons (Or.inr rfl) ?_ | refine lq_cons (Or.inl rfl) ?_)) n
        · have c10 : vk v = 10 := by omega
          obtain ⟨τ', e17, c17⟩ := T217 (kn := 9) (w := vw v) (t := t) hτ l
          have n := nx τ' (by unfold plcV; rw [if_pos ⟨c, ct⟩, if_neg c6, if_neg c6]; exact c17)
          simp only [e230_3, e230_35, e230_72, e230_100, e230_120, e230_123, Option.getD_some, Option.bind_some, Option.toList_some, Option.toList_none, List.cons_append, List.nil_append, and_self, and_true, true_and, false_and, and_false, ite_self, not_true_eq_false, not_false_eq_true, reduceIte, Nat.reduceEqDiff, ab_I, ab_L, ab_R, ao_I, ao_L, ao_R, gL_sL, gI_sI, gR_sR, gI_sL, gI_sR, gL_sI, gL_sR, gR_sI, gR_sL, aoS hτ, g3, wF, nl, gd0, gd8, gd10, w10, w8, Int.toNat_natCast, rd_0 hv, rd_10 hv, rd_8 hv, k6, k10, kt, eq_false c6, eq_true c10, eq_true ct, z0, e17, z11, Int.reduceEq]
          rw [z0] at n
          exact okc_q (by repeat (first | exact lq_nil | refine lq_cons (Or.inr rfl) ?_ | refine lq_cons (Or.inl rfl) ?_)) n
      · rw [if_pos z1] at nx
        obtain ⟨τ', e18, c18⟩ := T218 (pl := 11 * m) hτ hjτ hne l
        rw [rj] at c18
        have n := nx τ' (by unfold zerV; rw [if_pos ⟨c, ct⟩]; exact c18)
        have nz : ¬ z = 0 := by omega
        by_cases c6 : vk v = 6
        · simp only [e230_3, e230_35, e230_72, e230_83, e230_123, Option.getD_some, Option.bind_some, Option.toList_some, Option.toList_none, List.cons_append, List.nil_append, and_self, and_true, true_and, false_and, and_false, ite_self, not_true_eq_false, not_false_eq_true, reduceIte, Nat.reduceEqDiff, ab_I, ab_L, ab_R, ao_I, ao_L, ao_R, gL_sL, gI_sI, gR_sR, gI_sL, gI_sR, gL_sI, gL_sR, gR_sI, gR_sL, aoS hτ, g3, wF, nl, gd0, gd8, gd10, w10, w8, Int.toNat_natCast, rd_0 hv, rd_10 hv, rd_8 hv, k6, k10, kt, eq_true c6, eq_true ct, nz, e18, z11, Int.reduceEq]
          exact okc_q (by repeat (first | exact lq_nil | refine lq_cons (Or.inr rfl) ?_ | refine lq_cons (Or.inl rfl) ?_)) n
        · have c10 : vk v = 10 := by omega
          simp only [e230_3, e230_35, e230_72, e230_83, e230_123, Option.getD_some, Option.bind_some, Option.toList_some, Option.toList_none, List.cons_append, List.nil_append, and_self, and_true, true_and, false_and, and_false, ite_self, not_true_eq_false, not_false_eq_true, reduceIte, Nat.reduceEqDiff, ab_I, ab_L, ab_R, ao_I, ao_L, ao_R, gL_sL, gI_sI, gR_sR, gI_sL, gI_sR, gL_sI, gL_sR, gR_sI, gR_sL, aoS hτ, g3, wF, nl, gd0, gd8, gd10, w10, w8, Int.toNat_natCast, rd_0 hv, rd_10 hv, rd_8 hv, k6, k10, kt, eq_false c6, eq_true c10, eq_true ct, nz, e18, z11, Int.reduceEq]
          exact okc_q (by repeat (first | exact lq_nil | refine lq_cons (Or.inr rfl) ?_ | refine lq_cons (Or.inl rfl) ?_)) n
    · have n := nx τ (by
        split
        · unfold zerV
          rw [if_neg c]
          exact cx_s hv
        · unfold plcV
          rw [if_neg c]
          exact cx_s hv)
      by_cases ct : vt v = t
      · have c6 : ¬ vk v = 6 := fun y => c ⟨Or.inl y, ct⟩
        have c10 : ¬ vk v = 10 := fun y => c ⟨Or.inr y, ct⟩
        simp only [e230_3, e230_35, e230_123, Option.getD_some, Option.bind_some, Option.toList_some, Option.toList_none, List.cons_append, List.nil_append, and_self, and_true, true_and, false_and, and_false, ite_self, not_true_eq_false, not_false_eq_true, reduceIte, Nat.reduceEqDiff, ab_I, ab_L, ab_R, ao_I, ao_L, ao_R, gL_sL, gI_sI, gR_sR, gI_sL, gI_sR, gL_sI, gL_sR, gR_sI, gR_sL, aoS hτ, g3, wF, nl, gd0, gd10, w10, Int.toNat_natCast, rd_0 hv, rd_10 hv, k6, k10, kt, eq_false c6, eq_false c10, eq_true ct, z11]
        exact okc_q (by repeat (first | exact lq_nil | refine lq_cons (Or.inr rfl) ?_ | refine lq_cons (Or.inl rfl) ?_)) n
      · by_cases c6 : vk v = 6
        · simp only [e230_3, e230_35, e230_123, Option.getD_some, Option.bind_some, Option.toList_some, Option.toList_none, List.cons_append, List.nil_append, and_self, and_true, true_and, false_and, and_false, ite_self, not_true_eq_false, not_false_eq_true, reduceIte, Nat.reduceEqDiff, ab_I, ab_L, ab_R, ao_I, ao_L, ao_R, gL_sL, gI_sI, gR_sR, gI_sL, gI_sR, gL_sI, gL_sR, gR_sI, gR_sL, aoS hτ, g3, wF, nl, gd0, gd10, w10, Int.toNat_natCast, rd_0 hv, rd_10 hv, k6, k10, kt, eq_true c6, eq_false ct, z11]
          exact okc_q (by repeat (first | exact lq_nil | refine lq_cons (Or.inr rfl) ?_ | refine lq_cons (Or.inl rfl) ?_)) n
        · simp only [e230_3, e230_35, e230_123, Option.getD_some, Option.bind_some, Option.toList_some, Option.toList_none, List.cons_append, List.nil_append, and_self, and_true, true_and, false_and, and_false, ite_self, not_true_eq_false, not_false_eq_true, reduceIte, Nat.reduceEqDiff, ab_I, ab_L, ab_R, ao_I, ao_L, ao_R, gL_sL, gI_sI, gR_sR, gI_sL, gI_sR, gL_sI, gL_sR, gR_sI, gR_sL, aoS hτ, g3, wF, nl, gd0, gd10, w10, Int.toNat_natCast, rd_0 hv, rd_10 hv, k6, k10, kt, eq_false c6, eq_false ct, z11]
          exact okc_q (by repeat (first | exact lq_nil | refine lq_cons (Or.inr rfl) ?_ | refine lq_cons (Or.inl rfl) ?_)) n
  · intro τ q a
    have hτ := st_r q.2.2 h
    have g3 : gI τ k 3 = (sF S : Int) := (q.1 _ _).trans hS.1.1
    have nl : ((297 * sF S : Nat) : Int) ≤ ((11 * (27 * sF S) : Nat) : Int) := by omega
    rcases z01 with z0 | z1
    · have nz : ¬ z = 1 := by omega
      rw [if_neg nz] at a
      simp only [e230_3, e230_138, Option.getD_some, Option.bind_some, Option.toList_some, Option.toList_none, List.cons_append, List.nil_append, and_self, and_true, true_and, false_and, and_false, ite_self, not_true_eq_false, not_false_eq_true, reduceIte, Nat.reduceEqDiff, ab_I, ab_L, ab_R, ao_I, ao_L, ao_R, gL_sL, gI_sI, gR_sR, gI_sL, gI_sR, gL_sI, gL_sR, gR_sI, gR_sL, aoS hτ, g3, wF_27 h4, nl, z0, Int.reduceEq]
      exact okc_s ⟨CSt_all (fun f => if_neg (fun y => by rcases y.1 with y | y <;> exact absurd (show (3 : Int) = _ from y) (by decide))) hS q a, csq_c q⟩
    · have nz : ¬ z = 0 := by omega
      rw [if_pos z1] at a
      have c1 := CSt_all (S := S) (fun f => if_neg (fun y => by rcases y.1 with y | y <;> exact absurd (show (3 : Int) = _ from y) (by decide))) hS q a
      obtain ⟨τ2, e2, c2, q2⟩ := T229 (t := t) hτ c1 hH
      simp only [e230_3, e230_138, Option.getD_some, Option.bind_some, Option.toList_some, Option.toList_none, List.cons_append, List.nil_append, and_self, and_true, true_and, false_and, and_false, ite_self, not_true_eq_false, not_false_eq_true, reduceIte, Nat.reduceEqDiff, ab_I, ab_L, ab_R, ao_I, ao_L, ao_R, gL_sL, gI_sI, gR_sR, gI_sL, gI_sR, gL_sI, gL_sR, gR_sI, gR_sL, aoS hτ, g3, wF_27 h4, nl, nz, e2]
      refine okc_s ⟨?_, csq_t (csq_h q2) (csq_c q)⟩
      rw [if_pos z1]
      exact c2
end CAL
