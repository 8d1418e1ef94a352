/-! ===== what else is always so of a STATE: UNSET registers have nothing; TAGs of cells are not held ===== -/
/-- the bits that are set are no more than the least number -/
def lowA (n : N6) : Prop := ¬ jA n < jV n
def xP (H : List Int) (v : VL) : Prop := (vk v = 6 → ¬ vt v ∈ H) ∧ (vk v = 2 ∨ vk v = 7 ∨ vk v = 8 → vw v = 0) ∧ (vk v = 2 ∨ vk v = 3 ∨ vk v = 4 ∨ vk v = 5 ∨ vk v = 8 → vt v = 0) ∧ (vk v = 1 → lowA (vn v))
def xV (H : List Int) (v : VL) : Prop := xP H v ∧ (vk v = 0 → vr v = 0)
def xS (S : ST) : Prop := (∀ k : Nat, k < 26 * sF S → xP (sH S) (sV S k)) ∧ ∀ k : Nat, k < 26 * sF S → k % 26 < 10 → vk (sV S k) = 0 → vr (sV S k) = 0
section XS
variable {E : EV} {S : ST} {t : Int} {H : List Int} {v : VL} {r : Nat}
theorem lo_bm (a b : B64) : ¬ bmax a b < b := by
  rw [BitVec.lt_def, bmax_toNat]
  omega
theorem lo_lt {a b c : B64} (h : ¬ a < c) : ¬ bmax a b < c := by
  rw [BitVec.lt_def] at h ⊢
  rw [bmax_toNat]
  omega
theorem lo_td {n : N6} : lowA (tdN n) := by
  have b0 : lowA (byB n) := lo_bm _ _
  have b1 : lowA (td1 (byB n)) := by
    unfold td1
    split
    · exact lo_lt b0
    · exact b0
  have b2' : lowA (td2 (td1 (byB n))) := by
    unfold td2
    split
    · exact b1
    · exact b1
  unfold tdN
  split
  · exact lo_bm _ _
  · exact b2'
theorem lo_c {c : B64} : lowA (cstN c) := by
  show ¬ c < c
  rw [BitVec.lt_def]
  omega
theorem lo_any : lowA anyN := by show ¬ (0#64) < 0#64; decide
theorem lo_wide {n : Nat} : lowA (wideN n) := by
  unfold wideN
  split
  · exact lo_any
  · show ¬ (0#64) < 0#64; decide
theorem lo_cut {n : N6} : lowA (cutT n) := lo_td
theorem lo_neg {n : N6} : lowA (negN n) := lo_td
theorem lo_if {c : Prop} {d : Decidable c} : lowA (@ite _ c d (wideN 4) anyN) := by
  split
  · exact lo_wide
  · exact lo_any
theorem lo_opN {c o : Int} {x y : N6} : lowA (opN c o x y) := by
  unfold opN
  repeat' split
  all_goals first | exact lo_td | exact lo_c | exact lo_any
theorem lo_opW {c o : Int} {x y : N6} : lowA (opW c o x y) := by
  unfold opW
  split
  · split
    · exact lo_c
    · exact lo_wide
  · exact lo_cut
theorem lo_ext {n : Nat} {x : N6} : lowA (extN n x) := by
  unfold extN
  split
  · exact lo_c
  · exact lo_td
theorem lo_extW {n : Nat} {x : N6} : lowA (extW n x) := by
  unfold extW
  split
  · exact lo_c
  · exact lo_cut
theorem lo_trn {b : Bool} {n : Nat} {x : N6} : lowA (trnN b n x) := by
  unfold trnN
  split
  · exact lo_c
  · exact lo_wide
theorem xP_0 (h : vk v = 0) : xP H v := ⟨fun e => by omega, fun e => by omega, fun e => by omega, fun e => by omega⟩
theorem xP_1 (h : vk v = 1) (hl : lowA (vn v)) : xP H v := ⟨fun e => by omega, fun e => by omega, fun e => by omega, fun _ => hl⟩
theorem xV_num {n : N6} (hl : lowA n) : xV H (numV n) := ⟨xP_1 rfl hl, fun e => absurd (show (1 : Int) = 0 from e) (by decide)⟩
theorem xV_mk {k w t : Int} (h : ¬ k = 6) (hw : k = 2 ∨ k = 7 ∨ k = 8 → w = 0) (ht : k = 2 ∨ k = 3 ∨ k = 4 ∨ k = 5 ∨ k = 8 → t = 0) : xV H (mkV k w t) := ⟨⟨fun e => absurd e h, hw, ht, fun _ => lo_c⟩, fun _ => rfl⟩
theorem xV_uns : xV H unsV := xV_mk (by omega) (by omega) (by omega)
theorem x_w (h : xS S) (hF : 1 ≤ sF S) (hr : r < 10) (hv : xV (sH S) v) : xS (wV S r v) := by
  refine ⟨fun k hk => ?_, fun k hk k1 => ?_⟩
  · show xP (sH S) (if k = 26 * (sF S - 1) + r then v else sV S k)
    split
    · exact hv.1
    · exact h.1 k hk
  · show vk (if k = 26 * (sF S - 1) + r then v else sV S k) = 0 → vr (if k = 26 * (sF S - 1) + r then v else sV S k) = 0
    split
    · exact hv.2
    · exact h.2 k hk k1
theorem x_r (h : xS S) (hF : 1 ≤ sF S) (hr : r ≤ 10) : xV (sH S) (rgV S r) := by
  unfold rgV
  split
  · exact xV_mk (by omega) (by omega) (by omega)
  · exact ⟨h.1 _ (by omega), h.2 _ (by omega) (by omega)⟩
theorem x_all (h : xS S) {g : VL → VL} (hg : ∀ v, xP (sH S) v → xP (sH S) (g v)) (h0 : ∀ v, (vk v = 0 → vr v = 0) → vk (g v) = 0 → vr (g v) = 0) : xS (allV S g) := by
  refine ⟨fun k hk => ?_, fun k hk k1 => ?_⟩
  · have hk : k < 26 * sF S := hk
    show xP (sH S) (if k < 26 * sF S then g (sV S k) else sV S k)
    rw [if_pos hk]
    exact hg _ (h.1 k hk)
  · have hk : k < 26 * sF S := hk
    show vk (if k < 26 * sF S then g (sV S k) else sV S k) = 0 → vr (if k < 26 * sF S then g (sV S k) else sV S k) = 0
    rw [if_pos hk]
    exact h0 _ (h.2 k hk k1)
theorem x_put {f b n k : Nat} (h : xS S) (hb : b + n ≤ 128) : xS (putB S f b n k) := by
  refine ⟨fun j hj => ?_, fun j hj j1 => ?_⟩
  · have hj : j < 26 * sF S := hj
    show xP (sH S) (sV (putB S f b n k) j)
    rw [put_v]
    split
    · exact xP_0 (unp_k (sV S j))
    · exact h.1 j hj
  · have hj : j < 26 * sF S := hj
    rw [put_v, if_neg (by omega)]
    exact h.2 j hj j1
theorem x_rel (h : xS S) : xS (relH S t) := ⟨fun k hk => ⟨fun e z => (h.1 k hk).1 e (List.mem_filter.mp z).1, (h.1 k hk).2⟩, h.2⟩
theorem x_becZ (h : xS S) {T k : Int} : xS (becZ S T k) := by
  have a : xS (allV S (zerV T)) := x_all h (fun v hv => by
    unfold zerV
    split
    · exact (xV_num lo_c).1
    · exact hv) (fun v hv => by
    unfold zerV
    split
    · exact (xV_num (H := []) lo_c).2
    · exact hv)
  unfold becZ
  split
  · exact x_rel a
  · exact a
theorem x_plc (h : xS S) {T : Int} : xS (allV S (plcV T)) := by
  have e : ∀ (v : VL) (H : List Int) (a b : Int), xV H (mkV (if vk v = 6 then 5 else 9) a (if vk v = 6 then 0 else b)) ∧ ¬ vk (mkV (if vk v = 6 then 5 else 9) a (if vk v = 6 then 0 else b)) = 0 := fun v H a b => by
    by_cases z : vk v = 6
    · rw [if_pos z, if_pos z]
      exact ⟨xV_mk (by omega) (by omega) (by omega), by show ¬ (5 : Int) = 0; decide⟩
    · rw [if_neg z, if_neg z]
      exact ⟨xV_mk (by omega) (by omega) (by omega), by show ¬ (9 : Int) = 0; decide⟩
  exact x_all h (fun v hv => by
    unfold plcV
    split
    · exact (e v _ _ _).1.1
    · exact hv) (fun v hv => by
    unfold plcV
    split
    · exact fun z => absurd z (e v [] _ _).2
    · exact hv)
theorem x_rch (h : xS S) {T n : Int} : xS (allV S (rchV T n)) := by
  refine x_all h (fun v hv => ?_) (fun v hv => ?_)
  · unfold rchV
    split
    · rename_i c
      exact hv
    · exact hv
  · unfold rchV
    split
    · rename_i c
      exact fun z => absurd (c.1.symm.trans z) (by decide)
    · exact hv
theorem x_unsA (h : xS S) : xS (unsA S) := by
  refine ⟨fun k hk => ?_, fun k hk k1 => ?_⟩
  · show xP (sH S) (if 26 * (sF S - 1) + 1 ≤ k ∧ k ≤ 26 * (sF S - 1) + 5 then unsV else sV S k)
    split
    · exact (xV_mk (by omega) (by omega) (by omega)).1
    · exact h.1 k hk
  · show vk (if 26 * (sF S - 1) + 1 ≤ k ∧ k ≤ 26 * (sF S - 1) + 5 then unsV else sV S k) = 0 → vr (if 26 * (sF S - 1) + 1 ≤ k ∧ k ≤ 26 * (sF S - 1) + 5 then unsV else sV S k) = 0
    split
    · exact fun _ => rfl
    · exact h.2 k hk k1
theorem x_shf {p : VL} {n : N6} {c t : Int} (hm : mvs p) (hp : xV H p) : xV H (shfV p n c t).2.1 := by
  have km : ¬ vk p = 0 ∧ ¬ vk p = 6 := by rcases hm with k | k | k | k <;> omega
  have km1 : ¬ vk p = 1 := by rcases hm with k | k | k | k <;> omega
  obtain ⟨⟨-, p2, p3, -⟩, -⟩ := hp
  have hp : xV H p := ⟨⟨fun e => absurd e km.2, p2, p3, fun e => absurd e km1⟩, fun e => absurd e km.1⟩
  have z : ∀ v : VL, vk v = vk p → vw v = vw p → (vt v = vt p ∨ vk p = 7) → xV H v := fun v e1 e2 e3 => ⟨⟨fun q => by omega, fun q => by rw [e2]; exact p2 (by omega), fun q => by
    rcases e3 with e3 | e3
    · rw [e3]; exact p3 (by omega)
    · omega, fun q => by omega⟩, fun q => by omega⟩
  unfold shfV
  split
  · generalize (if c = 0 then jV n else - jV n) = d
    split <;> exact z _ rfl rfl (Or.inl rfl)
  · split
    · exact hp
    · split
      · exact hp
      · split
        · rename_i k7
          exact z _ rfl rfl (Or.inr k7)
        · exact z _ rfl rfl (Or.inl rfl)
theorem x_rgt (h : xS S) (hF : 1 ≤ sF S) {w : B64} (hr : rgt w → fS w ≤ 10) : xV (sH S) (rgtV S w) := by
  unfold rgtV
  split
  · rename_i r
    exact x_r h hF (sR_10 (hr r))
  · exact xV_num lo_c
theorem x_alu (h : xS S) (hF : 1 ≤ sF S) {w : B64} (hd : fD w ≤ 9) (hr : rgt w → ¬ fC w = 208 → ¬ fC w = 128 → fS w ≤ 10) : xV (sH S) (aluV S w t).2.1 := by
  have hx := x_r h hF (r := dR w) (Nat.le_of_lt (dR_9 hd))
  have u : xV (sH S) unsV := xV_mk (by omega) (by omega) (by omega)
  unfold aluV
  split
  · split
    · exact u
    · exact xV_num lo_trn
  · rename_i c1
    split
    · exact u
    · split
      · exact u
      · split
        · have hy : xV (sH S) (rgtV S w) := x_rgt h hF fun r => hr r c1 (by omega)
          unfold movV
          split
          · exact hy
          · split
            · exact hy
            · split
              · exact xV_num lo_cut
              · split
                · exact xV_num lo_ext
                · exact xV_num lo_extW
        · split
          · split
            · exact u
            · split
              · exact xV_num lo_neg
              · exact xV_num lo_cut
          · rename_i c2
            have hy : xV (sH S) (rgtV S w) := x_rgt h hF fun r => hr r c1 c2
            split
            · rename_i q
              exact x_shf q.2.2.1 hx
            · split
              · rename_i q
                exact x_shf q.2.2.2 hy
              · split
                · exact u
                · split
                  · exact xV_num lo_opN
                  · exact xV_num lo_opW
theorem x_lod (h : xS S) (ho : okS E t S) {w : B64} (hs : fS w ≤ 10) (hf : (lodV E S w).1 = 0) : xV (sH S) (lodV E S w).2 := by
  have ox := rV_ok ho (r := sRr w) (sR_10 hs)
  revert hf
  unfold lodV
  split
  · intro hf; exfalso; have hf : (3 : Int) = 0 := hf; omega
  · split
    · split
      · intro hf; exfalso; have hf : (9 : Int) = 0 := hf; omega
      · split
        · intro _
          show xV _ (mkV (if fO w = 0 then 7 else 8) 0 0)
          exact xV_mk (by split <;> decide) (fun _ => rfl) (fun _ => rfl)
        · intro _; exact xV_num lo_wide
    · split
      · rename_i q; intro hf; exact absurd hf q
      · split
        · intro hf; exfalso; have hf : (5 : Int) = 0 := hf; omega
        · rename_i c4
          split
          · rename_i c5
            intro _
            have v3 := ox.2.2.1 c5.1
            have rm : -128 ≤ vo (rgV S (sRr w)) + fO w ∧ vo (rgV S (sRr w)) + fO w ≤ -(bytN w : Int) := by
              have := Decidable.not_not.mp c4
              unfold room at this
              rwa [if_pos c5.1] at this
            have F := ho.1
            exact ⟨h.1 _ (by omega), fun z => absurd z c5.2.2⟩
          · split
            · intro hf; exfalso; have hf : (6 : Int) = 0 := hf; omega
            · split
              · intro _; exact xV_num lo_td
              · intro _; exact xV_num lo_wide
theorem x_sto (h : xS S) (hF : 1 ≤ sF S) {w : B64} (hs : fL w = 3 → fS w ≤ 10) : xS (stoV E S w).2 := by
  have hv : xV (sH S) (if fL w = 3 then rgV S (sRr w) else numV (cstN (BitVec.ofInt 64 (fI w)))) := by
    split
    · rename_i e
      exact x_r h hF (sR_10 (hs e))
    · exact xV_num lo_c
  have bn := bytN_c w
  unfold stoV
  generalize (if fL w = 3 then rgV S (sRr w) else numV (cstN (BitVec.ofInt 64 (fI w)))) = V at *
  split
  · exact h
  · split
    · exact h
    · split
      · split
        · exact h
        · split <;> exact h
      · split
        · exact h
        · split
          · exact h
          · rename_i c4
            have rm : vk (rgV S (dR w)) = 3 → -128 ≤ vo (rgV S (dR w)) + fO w ∧ vo (rgV S (dR w)) + fO w ≤ -(bytN w : Int) := fun e => by
              have := Decidable.not_not.mp c4
              unfold room at this
              rwa [if_pos e] at this
            split
            · exact h
            · split
              · rename_i c6
                have rm := rm c6.1
                refine ⟨fun k hk => ?_, fun k hk k1 => ?_⟩
                · have hk : k < 26 * sF S := hk
                  show xP (sH S) (if k = 26 * (vw (rgV S (dR w))).toNat + 10 + (vo (rgV S (dR w)) + fO w + 128).toNat / 8 then V else sV S k)
                  split
                  · exact hv.1
                  · exact h.1 k hk
                · have hk : k < 26 * sF S := hk
                  show vk (if k = 26 * (vw (rgV S (dR w))).toNat + 10 + (vo (rgV S (dR w)) + fO w + 128).toNat / 8 then V else sV S k) = 0 → _
                  rw [if_neg (by omega)]
                  intro z
                  show vr (if k = 26 * (vw (rgV S (dR w))).toNat + 10 + (vo (rgV S (dR w)) + fO w + 128).toNat / 8 then V else sV S k) = 0
                  rw [if_neg (by omega)]
                  exact h.2 k hk k1 z
              · split
                · rename_i c7
                  have rm := rm c7
                  exact x_put h (by omega)
                · exact h
theorem x_swp (h : xS S) (hF : 1 ≤ sF S) {w : B64} (hs : fS w ≤ 9 ∨ ¬ fI w % 2 = 1 ∨ fI w = 241) : xS (swpV E S w).2 := by
  have bn := bytN_c w
  unfold swpV
  split
  · exact h
  · split
    · exact h
    · split
      · exact h
      · split
        · exact h
        · rename_i c4
          have a : xS (if vk (rgV S (dR w)) = 3 then putB S (vw (rgV S (dR w))).toNat (vo (rgV S (dR w)) + fO w + 128).toNat (bytN w) (bytN w) else S) := by
            split
            · rename_i c3
              have rm : -128 ≤ vo (rgV S (dR w)) + fO w ∧ vo (rgV S (dR w)) + fO w ≤ -(bytN w : Int) := by
                have := Decidable.not_not.mp c4
                unfold room at this
                rwa [if_pos c3] at this
              exact x_put h (by omega)
            · exact h
          have aF : sF (if vk (rgV S (dR w)) = 3 then putB S (vw (rgV S (dR w))).toNat (vo (rgV S (dR w)) + fO w + 128).toNat (bytN w) (bytN w) else S) = sF S := by
            split <;> rfl
          split
          · exact h
          · split
            · exact h
            · show xS (if fI w = 241 then _ else _)
              split
              · exact x_w a (by rw [aF]; exact hF) (by omega) (xV_num lo_wide)
              · split
                · have fs := (fld_rng w).2.2.1
                  exact x_w a (by rw [aF]; exact hF) (show (fS w).toNat < 10 by omega) (xV_num lo_wide)
                · exact a
def wayX (w : WY) : Prop := ∀ n S, w = some (n, S) → xS S
theorem wayX_0 : wayX none := fun _ _ e => by cases e
theorem wayX_1 {n : Int} (h : xS S) : wayX (some (n, S)) := fun _ _ e => by cases e; exact h
theorem x_nrw (h : xS S) (hF : 1 ≤ sF S) {w : B64} {c : Int} {is : Bool} {x y : N6} (hd : dR w < 10 ∨ vk (rgV S 10) = 1) (hs : rgt w → sRr w < 10 ∨ vk (rgV S 10) = 1) : xS (nrwS S w c is x y) := by
  have k10 : ¬ vk (rgV S 10) = 1 := by
    unfold rgV
    rw [if_pos rfl]
    show ¬ (3 : Int) = 1
    decide
  have hd : dR w < 10 := by
    rcases hd with z | z
    · exact z
    · exact absurd z k10
  unfold nrwS
  split
  · rename_i c
    have hs : sRr w < 10 := by
      rcases hs c with z | z
      · exact z
      · exact absurd z k10
    exact x_w (x_w h hF hd (xV_num lo_td)) hF hs (xV_num lo_td)
  · exact x_w h hF hd (xV_num lo_td)
theorem x_numJ (h : xS S) (hF : 1 ≤ sF S) {w : B64} {g n : Int} (hd : dR w < 10 ∨ vk (rgV S 10) = 1) (hs : rgt w → sRr w < 10 ∨ vk (rgV S 10) = 1) : wayX (numJ S w g n t).2.1 ∧ wayX (numJ S w g n t).2.2.1 := by
  unfold numJ
  split
  · exact ⟨wayX_1 h, wayX_0⟩
  · split
    · exact ⟨wayX_1 h, wayX_0⟩
    · split
      · exact ⟨wayX_1 h, wayX_1 h⟩
      · split
        · split
          · exact ⟨wayX_1 (x_nrw h hF hd hs), wayX_1 (x_nrw h hF hd hs)⟩
          · exact ⟨wayX_1 (x_nrw h hF hd hs), wayX_0⟩
        · split
          · exact ⟨wayX_1 (x_nrw h hF hd hs), wayX_0⟩
          · exact ⟨wayX_0, wayX_0⟩
theorem x_rchJ (h : xS S) {p : VL} {c g n : Int} : wayX (rchJ S p c g n t).2.1 ∧ wayX (rchJ S p c g n t).2.2.1 := by
  unfold rchJ
  refine ⟨wayX_1 ?_, wayX_1 ?_⟩
  · split
    · exact x_rch h
    · split
      · exact x_rch h
      · exact h
  · split
    · exact x_rch h
    · split
      · exact x_rch h
      · exact h
theorem x_cmp (h : xS S) (hF : 1 ≤ sF S) {w : B64} {g n : Int} (hd : fD w ≤ 10) (hs : rgt w → fS w ≤ 10) : wayX (cmpJ S w g n t).2.1 ∧ wayX (cmpJ S w g n t).2.2.1 := by
  have fd := (fld_rng w).2.1
  have fs := (fld_rng w).2.2.1
  unfold cmpJ
  split
  · exact ⟨wayX_0, wayX_0⟩
  · split
    · rename_i c
      refine x_numJ h hF ?_ fun r => ?_
      · by_cases z : (fD w).toNat < 10
        · exact Or.inl z
        · refine Or.inr ?_
          have e : dR w = 10 := by show (fD w).toNat = 10; omega
          rw [← e]
          exact c.1
      · by_cases z : (fS w).toNat < 10
        · exact Or.inl z
        · refine Or.inr ?_
          have e : sRr w = 10 := by have := hs r; show (fS w).toNat = 10; omega
          have c2 := c.2
          unfold sidJ at c2
          rw [if_pos r, e] at c2
          exact c2
    · split
      · split
        · exact ⟨wayX_1 (x_plc h), wayX_1 (x_becZ h)⟩
        · exact ⟨wayX_1 (x_becZ h), wayX_1 (x_plc h)⟩
      · split
        · exact ⟨wayX_1 h, wayX_0⟩
        · split
          · exact ⟨wayX_0, wayX_0⟩
          · split
            · exact x_rchJ h
            · split
              · exact x_rchJ h
              · exact ⟨wayX_0, wayX_0⟩
theorem x_ent (h : xS S) (hF : 1 ≤ sF S) {g n : Int} : wayX (entJ S g n t).2.1 ∧ wayX (entJ S g n t).2.2.1 := by
  unfold entJ
  split
  · exact ⟨wayX_0, wayX_0⟩
  · refine ⟨wayX_1 ⟨fun k hk => ?_, fun k hk k1 => ?_⟩, wayX_0⟩
    · have hk : k < 26 * (sF S + 1) := hk
      show xP (sH S) (if 26 * sF S + 1 ≤ k ∧ k ≤ 26 * sF S + 5 then sV S (k - 26) else (if 26 * sF S ≤ k ∧ k < 26 * sF S + 26 then unsV else sV S k))
      split
      · exact h.1 _ (by omega)
      · split
        · exact (xV_mk (by omega) (by omega) (by omega)).1
        · exact h.1 _ (by omega)
    · have hk : k < 26 * (sF S + 1) := hk
      show vk (if 26 * sF S + 1 ≤ k ∧ k ≤ 26 * sF S + 5 then sV S (k - 26) else (if 26 * sF S ≤ k ∧ k < 26 * sF S + 26 then unsV else sV S k)) = 0 → vr (if 26 * sF S + 1 ≤ k ∧ k ≤ 26 * sF S + 5 then sV S (k - 26) else (if 26 * sF S ≤ k ∧ k < 26 * sF S + 26 then unsV else sV S k)) = 0
      split
      · exact h.2 _ (by omega) (by omega)
      · split
        · exact fun _ => rfl
        · exact h.2 _ (by omega) k1
theorem x_exi (h : xS S) (hF : 1 ≤ sF S) : wayX (exiJ S t).2.1 ∧ wayX (exiJ S t).2.2.1 := by
  unfold exiJ
  split
  · exact ⟨wayX_0, wayX_0⟩
  · split
    · exact ⟨wayX_0, wayX_0⟩
    · split
      · split <;> exact ⟨wayX_0, wayX_0⟩
      · refine ⟨wayX_1 (x_unsA (x_w (S := (sF S - 1, sV S, sB S, sH S)) ⟨fun k hk => ?_, fun k hk => ?_⟩ (show 1 ≤ sF S - 1 by omega) (by decide) (x_r h hF (by omega)))), wayX_0⟩
        · have hk : k < 26 * (sF S - 1) := hk
          exact h.1 k (by omega)
        · have hk : k < 26 * (sF S - 1) := hk
          exact h.2 k (by omega)
theorem hlp26_d (h : hlpF E S 26 = 0) : (vk (rgV S 3) = 3 ∧ vk (rgV S 4) = 1) ∧ ¬ 128#64 < jB (vn (rgV S 4)) ∧ ¬ jA (vn (rgV S 4)) = 0#64 ∧ room E (rgV S 3) 0 (jB (vn (rgV S 4))).toInt := by
  unfold hlpF at h
  rw [if_neg (by decide), if_neg (by decide), if_neg (by decide), if_neg (by decide), if_neg (by decide), if_pos rfl] at h
  obtain ⟨h, h5⟩ := fst_0 h
  obtain ⟨h, h4⟩ := fst_0 h
  obtain ⟨h, h3⟩ := fst_0 h
  have q4 := of_decide_eq_true (wntA_0 h3).2.2
  have q3 := of_decide_eq_true (wntA_0 h4).2.2
  refine ⟨⟨q3, q4.1⟩, q4.2.2, q4.2.1, ?_⟩
  by_cases c : room E (rgV S 3) 0 (jB (vn (rgV S 4))).toInt
  · exact c
  · rw [if_neg c] at h5
    exact absurd h5 (by decide)
theorem hlp26 (h : hlpF E S 26 = 0) : (vo (rgV S 3) + 128).toNat + (jB (vn (rgV S 4))).toNat ≤ 128 := by
  obtain ⟨⟨q3, -⟩, q4, -, rm⟩ := hlp26_d h
  unfold room at rm
  rw [if_pos q3] at rm
  have b : (jB (vn (rgV S 4))).toNat ≤ 128 := by
    have := BitVec.not_lt.mp q4
    have := BitVec.le_def.mp this
    exact this
  have e : (jB (vn (rgV S 4))).toInt = ((jB (vn (rgV S 4))).toNat : Int) := BitVec.toInt_eq_toNat_of_lt (by omega)
  rw [e] at rm
  omega
theorem x_hlp (h : xS S) (ho : okS E t S) {x n : Int} : wayX (hlpJ E S x n t).2.1 ∧ wayX (hlpJ E S x n t).2.2.1 := by
  have hF := ho.1.1
  have hs : hlpF E S x = 0 → xS (hlpS S x) := fun hf => by
    unfold hlpS
    split
    · rename_i c
      have c3 := rV_ok ho (r := 3) (by decide)
      have c4 := rV_ok ho (r := 4) (by decide)
      refine x_put h ?_
      rw [c] at hf
      exact hlp26 hf
    · split
      · refine x_all h (fun v hv => ?_) (fun v hv => ?_)
        · unfold pktV
          split
          · exact (xV_mk (by omega) (by omega) (by omega)).1
          · exact hv
        · unfold pktV
          split
          · exact fun _ => rfl
          · exact hv
      · split
        · refine x_all (S := relH S _) (x_rel h) (fun v hv => ?_) (fun v hv => ?_)
          · unfold recV
            split
            · exact (xV_mk (by omega) (by omega) (by omega)).1
            · exact hv
          · unfold recV
            split
            · exact fun _ => rfl
            · exact hv
        · exact h
  have sh : sF (hlpS S x) = sF S := by
    unfold hlpS
    repeat' split
    all_goals rfl
  have un : ∀ T : ST, 1 ≤ sF T → 1 ≤ sF (unsA T) := fun T q => q
  unfold hlpJ
  split
  · exact ⟨wayX_0, wayX_0⟩
  · rename_i hf
    have hf := Decidable.not_not.mp hf
    split
    · refine ⟨wayX_1 (x_w (x_unsA h) (un _ hF) (by decide) ⟨⟨fun _ z => ?_, fun z => absurd z (by show ¬ ((6 : Int) = 2 ∨ (6 : Int) = 7 ∨ (6 : Int) = 8); omega), fun z => absurd z (by show ¬ ((6 : Int) = 2 ∨ (6 : Int) = 3 ∨ (6 : Int) = 4 ∨ (6 : Int) = 5 ∨ (6 : Int) = 8); omega), fun z => absurd (show (6 : Int) = 1 from z) (by decide)⟩, fun _ => rfl⟩), wayX_0⟩
      have := (ho.2.2.2.1 _ z).2
      have : t + 1 ≤ t := this
      omega
    · split
      · refine ⟨wayX_1 ?_, wayX_0⟩
        have u := x_w (S := unsA S) (r := 0) (v := mkV 10 (jV (vn (rgV S 2))).toInt (t + 1)) (x_unsA h) (un _ hF) (by decide) (xV_mk (by omega) (by omega) (by omega))
        refine ⟨fun k hk => ⟨fun e z => ?_, (u.1 k hk).2⟩, u.2⟩
        rcases List.mem_append.mp z with z | z
        · exact (u.1 k hk).1 e z
        · have z : vt (sV (wV (unsA S) 0 (mkV 10 (jV (vn (rgV S 2))).toInt (t + 1))) k) = t + 1 := List.mem_singleton.mp z
          have hk : k < 26 * sF S := hk
          have e : vk (if k = 26 * (sF S - 1) + 0 then mkV 10 (jV (vn (rgV S 2))).toInt (t + 1) else if 26 * (sF S - 1) + 1 ≤ k ∧ k ≤ 26 * (sF S - 1) + 5 then unsV else sV S k) = 6 := e
          have z : vt (if k = 26 * (sF S - 1) + 0 then mkV 10 (jV (vn (rgV S 2))).toInt (t + 1) else if 26 * (sF S - 1) + 1 ≤ k ∧ k ≤ 26 * (sF S - 1) + 5 then unsV else sV S k) = t + 1 := z
          by_cases c0 : k = 26 * (sF S - 1) + 0
          · rw [if_pos c0] at e
            exact absurd (show (10 : Int) = 6 from e) (by decide)
          · rw [if_neg c0] at e z
            by_cases c1 : 26 * (sF S - 1) + 1 ≤ k ∧ k ≤ 26 * (sF S - 1) + 5
            · rw [if_pos c1] at e
              exact absurd (show (0 : Int) = 6 from e) (by decide)
            · rw [if_neg c1] at e z
              have := (ho.2.1 k hk).2.2.2.2.2.2.1 (Or.inl e)
              omega
      · exact ⟨wayX_1 (x_w (x_unsA (hs hf)) (un _ (by rw [sh]; exact hF)) (by decide) (xV_num lo_if)), wayX_0⟩
theorem x_way {f n t' : Int} (h : f = 0 → xS S) : wayX (wayJ f n S t').2.1 ∧ wayX (wayJ f n S t').2.2.1 := by
  unfold wayJ
  split
  · rename_i e
    exact ⟨wayX_1 (h e), wayX_0⟩
  · exact ⟨wayX_0, wayX_0⟩
theorem stp_x (h : xS S) (ho : okS E t S) {w w2 : B64} {i : Int} (hw : okI w w2) : wayX (stpJ E S i w w2 t).2.1 ∧ wayX (stpJ E S i w w2 t).2.2.1 := by
  have hF := ho.1.1
  have fr := fld_rng w
  unfold stpJ
  by_cases l0 : fL w = 0
  · rw [if_pos l0]
    have d9 : fD w ≤ 9 := by
      rcases hw with hw | hw
      · exact hw.2.1.2.1
      · unfold okPl at hw
        rw [if_pos l0] at hw
        exact hw.elim
    split
    · exact ⟨wayX_1 (x_w h hF (dR_9 d9) (xV_num lo_c)), wayX_0⟩
    · split
      · exact ⟨wayX_0, wayX_0⟩
      · exact ⟨wayX_1 (x_w h hF (dR_9 d9) (xV_mk (by omega) (by omega) (by omega))), wayX_0⟩
  · rw [if_neg l0]
    have hw : okPl w := by
      rcases hw with hw | hw
      · exact absurd hw.1 l0
      · exact hw
    unfold okPl at hw
    rw [if_neg l0] at hw
    by_cases l4 : fL w = 4 ∨ fL w = 7
    · rw [if_pos l4] at hw ⊢
      refine x_way fun _ => x_w h hF (dR_9 hw.1.1) (x_alu h hF hw.1.1 fun r c1 c2 => ?_)
      have := hw.2
      rw [if_neg c1, if_neg c2, if_pos r] at this
      exact this.1.1
    · rw [if_neg l4] at hw ⊢
      by_cases l5 : fL w = 5 ∨ fL w = 6
      · rw [if_pos l5] at hw ⊢
        split
        · exact ⟨wayX_1 h, wayX_0⟩
        · rename_i j1
          split
          · exact x_exi h hF
          · rename_i j2
            split
            · split
              · exact x_ent h hF
              · exact x_hlp h ho
            · rename_i j3
              unfold okJmp at hw
              rw [if_neg (fun z => j1 (Or.inl z)), if_neg (fun z => j1 (Or.inr z)), if_neg j3, if_neg j2] at hw
              refine x_cmp h hF hw.1.2 fun r => ?_
              have := hw.2
              rw [if_pos r] at this
              exact this.1
      · rw [if_neg l5] at hw ⊢
        unfold okMem at hw
        by_cases l1 : fL w = 1
        · rw [if_pos l1] at hw ⊢
          exact x_way fun z => x_w h hF (dR_9 hw.2.1) (x_lod h ho hw.2.2.1 z)
        · rw [if_neg l1] at hw ⊢
          by_cases m : fL w = 3 ∧ fM w = 192
          · rw [if_pos m]
            refine x_way fun _ => x_swp h hF ?_
            rw [if_neg (by omega), if_neg (by omega)] at hw
            rcases hw.2 with q | q
            · by_cases z : fI w = 241
              · exact Or.inr (Or.inr z)
              · exact Or.inr (Or.inl (by omega))
            · exact Or.inl q.2
          · rw [if_neg m]
            refine x_way fun _ => x_sto h hF fun l3 => ?_
            rw [if_neg (by omega)] at hw
            by_cases m96 : fM w = 96
            · rw [if_pos m96] at hw
              exact hw.2.1
            · exfalso
              refine m ⟨l3, ?_⟩
              rw [if_neg m96] at hw
              unfold fM
              omega
end XS
/-- what is always so of a VALUE in the class's row -/
def okW (v : VL) : Prop := (0 ≤ vk v ∧ vk v ≤ 10) ∧ (0 ≤ vt v ∧ vt v < 2000000) ∧ (0 ≤ vw v ∧ vw v ≤ 100) ∧ (-4096 ≤ vo v ∧ vo v ≤ 4096) ∧ (0 ≤ vr v ∧ vr v ≤ 4097) ∧ canV v
theorem okW_of {E : EV} {g : Nat} {t : Int} {H : List Int} {v : VL} (o : okV E g t v) (c : canV v) (x : xP H v) (hg : g ≤ 10) (ht : t < 1000000) : okW v := by
  obtain ⟨o1, o2, o3, o4, o5, o6, o7, o8, o9, o10⟩ := o
  obtain ⟨x1, x2, x3, -⟩ := x
  have c' := c
  obtain ⟨c1, c2, c3, c4, c5, c6⟩ := c'
  by_cases k1 : vk v = 1
  · have e := c1 k1
    have w : vw v = 0 := by rw [e]; rfl
    have o : vo v = 0 := by rw [e]; rfl
    have r : vr v = 0 := by rw [e]; rfl
    have t : vt v = 0 := by rw [e]; rfl
    exact ⟨o1, by omega, by omega, by omega, by omega, c⟩
  · by_cases k0 : vk v = 0
    · have e := c2 k0
      have w : vw v = 0 := by rw [e.1]; rfl
      have o : vo v = 0 := by rw [e.1]; rfl
      have t : vt v = 0 := by rw [e.1]; rfl
      exact ⟨o1, by omega, by omega, by omega, by omega, c⟩
    · have k : vk v = 2 ∨ vk v = 3 ∨ vk v = 4 ∨ vk v = 5 ∨ vk v = 6 ∨ vk v = 7 ∨ vk v = 8 ∨ vk v = 9 ∨ vk v = 10 := by omega
      have c5 := c5 k0
      refine ⟨o1, ?_, ?_, ?_, ?_, c⟩
      · rcases k with k | k | k | k | k | k | k | k | k
        · have := x3 (by omega); omega
        · have := x3 (by omega); omega
        · have := x3 (by omega); omega
        · have := x3 (by omega); omega
        · have := o7 (by omega); omega
        · have := o8 k; omega
        · have := x3 (by omega); omega
        · have := o7 (by omega); omega
        · have := o7 (by omega); omega
      · rcases k with k | k | k | k | k | k | k | k | k
        · have := x2 (by omega); omega
        · have := o3 k; omega
        · have := o4 k; omega
        · have := o5 (by omega); omega
        · have := o5 (by omega); omega
        · have := x2 (by omega); omega
        · have := x2 (by omega); omega
        · have := o9 (by omega); omega
        · have := o9 (by omega); omega
      · by_cases m : mvs v
        · exact o2 m
        · have m : ¬ (vk v = 3 ∨ vk v = 5 ∨ vk v = 7 ∨ vk v = 9) := m
          have := c4 (by omega)
          omega
      · by_cases k7 : vk v = 7
        · have := o10 k7
          have := c6 k7
          omega
        · have := c5 k7
          omega
theorem okW_S {E : EV} {t : Int} {S : ST} (ho : okS E t S) (hc : canS S) (hx : xS S) (ht : t < 1000000) {k : Nat} (hk : k < 26 * sF S) : okW (sV S k) := okW_of (ho.2.1 k hk) (hc k hk) (hx.1 k hk) (by have := ho.1; omega) ht
theorem okW_3 {f : Nat} (h : f ≤ 4) : okW (mkV 3 (f : Int) 0) := by
  have k : vk (mkV 3 (f : Int) 0) = 3 := rfl
  exact ⟨by omega, by show (0 : Int) ≤ 0 ∧ (0 : Int) < 2000000; decide, by show (0 : Int) ≤ (f : Int) ∧ (f : Int) ≤ 100; omega, by show (-4096 : Int) ≤ 0 ∧ (0 : Int) ≤ 4096; decide, by show (0 : Int) ≤ 0 ∧ (0 : Int) ≤ 4097; decide, can_mk (by decide)⟩
