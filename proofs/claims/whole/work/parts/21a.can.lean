/-! ===== VALUES that are NUMBERS have nothing else ===== -/
def canV (v : VL) : Prop := (vk v = 1 → v = numV (vn v)) ∧ (vk v = 0 → v = bytV (vr v) ∧ 0 ≤ vr v ∧ vr v ≤ 255) ∧ (vk v = 2 ∨ vk v = 3 ∨ vk v = 4 ∨ vk v = 6 ∨ vk v = 8 ∨ vk v = 10 → vn v = cstN 0#64) ∧ (vk v = 2 ∨ vk v = 4 ∨ vk v = 6 ∨ vk v = 8 ∨ vk v = 10 → vo v = 0) ∧ (¬ vk v = 0 → ¬ vk v = 7 → vr v = 0) ∧ (vk v = 7 → 0 ≤ vr v)
def canS (S : ST) : Prop := ∀ k : Nat, k < 26 * sF S → canV (sV S k)
theorem can_num (n : N6) : canV (numV n) := by
  have k1 : vk (numV n) = 1 := rfl
  refine ⟨fun _ => rfl, fun k => ?_, fun k => ?_, fun k => ?_, fun _ _ => rfl, fun k => ?_⟩ <;> (exfalso; omega)
theorem can_byt {r : Int} (h : 0 ≤ r ∧ r ≤ 255) : canV (bytV r) := by
  have k0 : vk (bytV r) = 0 := rfl
  refine ⟨fun k => ?_, fun _ => ⟨rfl, h⟩, fun k => ?_, fun k => ?_, fun k => absurd k0 k, fun k => ?_⟩ <;> (exfalso; omega)
theorem can_uns : canV unsV := can_byt (r := 0) ⟨by decide, by decide⟩
theorem can_mk {k w t : Int} (h : ¬ k = 1 ∧ ¬ k = 0) : canV (mkV k w t) := by
  have kk : vk (mkV k w t) = k := rfl
  refine ⟨fun e => ?_, fun e => ?_, fun _ => rfl, fun _ => rfl, fun _ _ => rfl, fun _ => Int.le_refl _⟩ <;> (exfalso; omega)
section CN
variable {E : EV} {S : ST} {t : Int}
theorem can_w (h : canS S) {r : Nat} {v : VL} (hv : canV v) : canS (wV S r v) := fun k hk => by
  show canV (if k = 26 * (sF S - 1) + r then v else sV S k)
  split
  · exact hv
  · exact h k hk
theorem can_r (h : canS S) (hF : 1 ≤ sF S) {r : Nat} (hr : r ≤ 10) : canV (rgV S r) := by
  unfold rgV
  split
  · exact can_mk (by decide)
  · exact h _ (by omega)
theorem can_all (h : canS S) {g : VL → VL} (hg : ∀ v, canV v → canV (g v)) : canS (allV S g) := fun k hk => by
  have hk : k < 26 * sF S := hk
  show canV (if k < 26 * sF S then g (sV S k) else sV S k)
  rw [if_pos hk]
  exact hg _ (h k hk)
theorem or_lt (p : Nat → Bool) : ∀ (l : List Nat) (a : Nat), (∀ i ∈ l, i < 8) → a < 256 → l.foldl (fun (a : Nat) i => if p i = true then a ||| 1 <<< i else a) a < 256 := by
  intro l
  induction l with
  | nil => intro a _ h; exact h
  | cons i l ih =>
    intro a hl h
    rw [List.foldl_cons]
    refine ih _ (fun j hj => hl j (List.mem_cons_of_mem _ hj)) ?_
    have hi := hl i (List.mem_cons_self ..)
    split
    · have : 1 <<< i < 2 ^ 8 := by
        rw [Nat.shiftLeft_eq, Nat.one_mul]
        exact Nat.pow_lt_pow_right (by omega) (by omega)
      exact Nat.or_lt_two_pow (n := 8) h this
    · exact h
theorem can_put (h : canS S) {f b n k : Nat} : canS (putB S f b n k) := fun j hj => by
  have old := h j hj
  show canV (if 26 * f + 10 + b / 8 ≤ j ∧ j ≤ 26 * f + 10 + (b + n - 1) / 8 ∧ 0 < n then _ else sV S j)
  split
  · have u : ∃ r : Int, (0 ≤ r ∧ r ≤ 255) ∧ unpV (sV S j) = bytV r := by
      unfold unpV
      split
      · rename_i k0
        exact ⟨vr (sV S j), (old.2.1 k0).2, (old.2.1 k0).1⟩
      · refine ⟨_, ?_, rfl⟩
        split <;> omega
    obtain ⟨r, r1, r2⟩ := u
    rw [r2]
    have lt := or_lt (fun i => decide (b ≤ 8 * (j - (26 * f + 10)) + i ∧ 8 * (j - (26 * f + 10)) + i < b + k)) (List.range 8) r.toNat (fun i hi => List.mem_range.mp hi) (by omega)
    simp only [decide_eq_true_eq] at lt
    refine can_byt ⟨?_, ?_⟩
    · show (0 : Int) ≤ (((List.range 8).foldl (fun (a : Nat) i => if b ≤ 8 * (j - (26 * f + 10)) + i ∧ 8 * (j - (26 * f + 10)) + i < b + k then a ||| 1 <<< i else a) r.toNat : Nat) : Int)
      omega
    · show (((List.range 8).foldl (fun (a : Nat) i => if b ≤ 8 * (j - (26 * f + 10)) + i ∧ 8 * (j - (26 * f + 10)) + i < b + k then a ||| 1 <<< i else a) r.toNat : Nat) : Int) ≤ 255
      omega
  · exact old
theorem can_becZ (h : canS S) {T k : Int} : canS (becZ S T k) := by
  have a : canS (allV S (zerV T)) := can_all h fun v hv => by
    unfold zerV
    split
    · exact can_num _
    · exact hv
  unfold becZ
  split
  · exact a
  · exact a
theorem can_plc (h : canS S) {T : Int} : canS (allV S (plcV T)) := can_all h fun v hv => by
  unfold plcV
  split
  · refine can_mk ?_
    split <;> decide
  · exact hv
theorem can_rch (h : canS S) {T n : Int} : canS (allV S (rchV T n)) := can_all h fun v hv => by
  unfold rchV
  split
  · rename_i c
    have k7 : vk (vk v, vn v, vo v, vw v, n, vt v) = 7 := c.1
    have o := hv.2.2.2.2.2 c.1
    refine ⟨fun e => ?_, fun e => ?_, fun e => ?_, fun e => ?_, fun _ e => absurd k7 e, fun _ => ?_⟩
    · exfalso; omega
    · exfalso; omega
    · exfalso; omega
    · exfalso; omega
    · show 0 ≤ n
      omega
  · exact hv
theorem can_unsA (h : canS S) : canS (unsA S) := fun k hk => by
  show canV (if 26 * (sF S - 1) + 1 ≤ k ∧ k ≤ 26 * (sF S - 1) + 5 then unsV else sV S k)
  split
  · exact can_uns
  · exact h k hk
theorem can_shf {p : VL} {n : N6} {c t : Int} (hm : mvs p) (hp : canV p) : canV (shfV p n c t).2.1 := by
  obtain ⟨h1, h2, h3, h4, h5, h6⟩ := hp
  have km : ¬ vk p = 0 ∧ ¬ vk p = 1 ∧ ¬ (vk p = 2 ∨ vk p = 4 ∨ vk p = 6 ∨ vk p = 8 ∨ vk p = 10) := by rcases hm with k | k | k | k <;> omega
  unfold shfV
  split
  · generalize (if c = 0 then jV n else - jV n) = d
    split
    · exact ⟨h1, h2, h3, h4, h5, h6⟩
    · exact ⟨fun e => absurd e km.2.1, fun e => absurd e km.1, h3, fun e => absurd e km.2.2, h5, h6⟩
  · split
    · exact ⟨h1, h2, h3, h4, h5, h6⟩
    · rename_i q
      have k3 : ¬ vk p = 3 := fun e => q (Or.inr e)
      have kn : ¬ (vk p = 2 ∨ vk p = 3 ∨ vk p = 4 ∨ vk p = 6 ∨ vk p = 8 ∨ vk p = 10) := by rcases hm with k | k | k | k <;> omega
      split
      · exact ⟨h1, h2, h3, h4, h5, h6⟩
      · split
        · exact ⟨fun e => absurd e km.2.1, fun e => absurd e km.1, fun e => absurd e kn, fun e => absurd e km.2.2, fun _ _ => rfl, fun _ => Int.le_refl _⟩
        · exact ⟨fun e => absurd e km.2.1, fun e => absurd e km.1, fun e => absurd e kn, fun e => absurd e km.2.2, h5, h6⟩
theorem can_rgt (h : canS S) (hF : 1 ≤ sF S) {w : B64} (hr : rgt w → fS w ≤ 10) : canV (rgtV S w) := by
  unfold rgtV
  split
  · rename_i r
    exact can_r h hF (sR_10 (hr r))
  · exact can_num _
theorem can_alu (h : canS S) (hF : 1 ≤ sF S) {w : B64} (hd : fD w ≤ 9) (hr : rgt w → ¬ fC w = 208 → ¬ fC w = 128 → fS w ≤ 10) : canV (aluV S w t).2.1 := by
  have hx := can_r h hF (r := dR w) (Nat.le_of_lt (dR_9 hd))
  have u : canV unsV := can_uns
  unfold aluV
  split
  · split
    · exact u
    · exact can_num _
  · rename_i c1
    split
    · exact u
    · split
      · exact u
      · split
        · have hy : canV (rgtV S w) := can_rgt h hF fun r => hr r c1 (by omega)
          unfold movV
          split
          · exact hy
          · split
            · exact hy
            · split
              · exact can_num _
              · split
                · exact can_num _
                · exact can_num _
        · split
          · split
            · exact u
            · split
              · exact can_num _
              · exact can_num _
          · rename_i c2
            have hy : canV (rgtV S w) := can_rgt h hF fun r => hr r c1 c2
            split
            · rename_i q
              exact can_shf q.2.2.1 hx
            · split
              · rename_i q
                exact can_shf q.2.2.2 hy
              · split
                · exact u
                · split
                  · exact can_num _
                  · exact can_num _
theorem can_lod (h : canS S) (ho : okS E t S) {w : B64} (hs : fS w ≤ 10) (hf : (lodV E S w).1 = 0) : canV (lodV E S w).2 := by
  have ox := rV_ok ho (r := sRr w) (sR_10 hs)
  revert hf
  unfold lodV
  split
  · intro hf; exfalso; have hf : (3 : Int) = 0 := hf; omega
  · split
    · split
      · intro hf; exfalso; have hf : (9 : Int) = 0 := hf; omega
      · split
        · intro _
          show canV (mkV (if fO w = 0 then 7 else 8) 0 0)
          refine can_mk ?_
          split <;> decide
        · intro _; exact can_num _
    · split
      · rename_i q; intro hf; exact absurd hf q
      · split
        · intro hf; exfalso; have hf : (5 : Int) = 0 := hf; omega
        · rename_i c4
          split
          · rename_i c5
            intro _
            have v3 := ox.2.2.1 c5.1
            have rm : -128 ≤ vo (rgV S (sRr w)) + fO w ∧ vo (rgV S (sRr w)) + fO w ≤ -(bytN w : Int) := by
              have := Decidable.not_not.mp c4
              unfold room at this
              rwa [if_pos c5.1] at this
            have F := ho.1
            exact h _ (by omega)
          · split
            · intro hf; exfalso; have hf : (6 : Int) = 0 := hf; omega
            · split
              · intro _; exact can_num _
              · intro _; exact can_num _
theorem can_sto (h : canS S) (hF : 1 ≤ sF S) {w : B64} (hs : fL w = 3 → fS w ≤ 10) : canS (stoV E S w).2 := by
  have hv : canV (if fL w = 3 then rgV S (sRr w) else numV (cstN (BitVec.ofInt 64 (fI w)))) := by
    split
    · rename_i e
      exact can_r h hF (sR_10 (hs e))
    · exact can_num _
  unfold stoV
  generalize (if fL w = 3 then rgV S (sRr w) else numV (cstN (BitVec.ofInt 64 (fI w)))) = V at *
  split
  · exact h
  · split
    · exact h
    · split
      · split
        · exact h
        · split <;> exact h
      · split
        · exact h
        · split
          · exact h
          · split
            · exact h
            · split
              · intro k hk
                have hk : k < 26 * sF S := hk
                show canV (if k = 26 * (vw (rgV S (dR w))).toNat + 10 + (vo (rgV S (dR w)) + fO w + 128).toNat / 8 then V else sV S k)
                split
                · exact hv
                · exact h k hk
              · split
                · exact can_put h
                · exact h
theorem can_swp (h : canS S) {w : B64} : canS (swpV E S w).2 := by
  have a : canS (if vk (rgV S (dR w)) = 3 then putB S (vw (rgV S (dR w))).toNat (vo (rgV S (dR w)) + fO w + 128).toNat (bytN w) (bytN w) else S) := by
    split
    · exact can_put h
    · exact h
  unfold swpV
  split
  · exact h
  · split
    · exact h
    · split
      · exact h
      · split
        · exact h
        · split
          · exact h
          · split
            · exact h
            · show canS (if fI w = 241 then _ else _)
              split
              · exact can_w a (can_num _)
              · split
                · exact can_w a (can_num _)
                · exact a
def wayC (w : WY) : Prop := ∀ n S, w = some (n, S) → canS S
theorem wayC_0 : wayC none := fun _ _ e => by cases e
theorem wayC_1 {n : Int} (h : canS S) : wayC (some (n, S)) := fun _ _ e => by cases e; exact h
theorem can_nrw (h : canS S) {w : B64} {c : Int} {is : Bool} {x y : N6} : canS (nrwS S w c is x y) := by
  unfold nrwS
  split
  · exact can_w (can_w h (can_num _)) (can_num _)
  · exact can_w h (can_num _)
theorem can_numJ (h : canS S) {w : B64} {g n : Int} : wayC (numJ S w g n t).2.1 ∧ wayC (numJ S w g n t).2.2.1 := by
  unfold numJ
  split
  · exact ⟨wayC_1 h, wayC_0⟩
  · split
    · exact ⟨wayC_1 h, wayC_0⟩
    · split
      · exact ⟨wayC_1 h, wayC_1 h⟩
      · split
        · split
          · exact ⟨wayC_1 (can_nrw h), wayC_1 (can_nrw h)⟩
          · exact ⟨wayC_1 (can_nrw h), wayC_0⟩
        · split
          · exact ⟨wayC_1 (can_nrw h), wayC_0⟩
          · exact ⟨wayC_0, wayC_0⟩
theorem can_rchJ (h : canS S) {p : VL} {c g n : Int} : wayC (rchJ S p c g n t).2.1 ∧ wayC (rchJ S p c g n t).2.2.1 := by
  unfold rchJ
  refine ⟨wayC_1 ?_, wayC_1 ?_⟩
  · split
    · exact can_rch h
    · split
      · exact can_rch h
      · exact h
  · split
    · exact can_rch h
    · split
      · exact can_rch h
      · exact h
theorem can_cmp (h : canS S) {w : B64} {g n : Int} : wayC (cmpJ S w g n t).2.1 ∧ wayC (cmpJ S w g n t).2.2.1 := by
  unfold cmpJ
  split
  · exact ⟨wayC_0, wayC_0⟩
  · split
    · exact can_numJ h
    · split
      · split
        · exact ⟨wayC_1 (can_plc h), wayC_1 (can_becZ h)⟩
        · exact ⟨wayC_1 (can_becZ h), wayC_1 (can_plc h)⟩
      · split
        · exact ⟨wayC_1 h, wayC_0⟩
        · split
          · exact ⟨wayC_0, wayC_0⟩
          · split
            · exact can_rchJ h
            · split
              · exact can_rchJ h
              · exact ⟨wayC_0, wayC_0⟩
theorem can_ent (h : canS S) (hF : 1 ≤ sF S) {g n : Int} : wayC (entJ S g n t).2.1 ∧ wayC (entJ S g n t).2.2.1 := by
  unfold entJ
  split
  · exact ⟨wayC_0, wayC_0⟩
  · refine ⟨wayC_1 (fun k hk => ?_), wayC_0⟩
    have hk : k < 26 * (sF S + 1) := hk
    show canV (if 26 * sF S + 1 ≤ k ∧ k ≤ 26 * sF S + 5 then sV S (k - 26) else (if 26 * sF S ≤ k ∧ k < 26 * sF S + 26 then unsV else sV S k))
    split
    · exact h _ (by omega)
    · split
      · exact can_uns
      · exact h _ (by omega)
theorem can_exi (h : canS S) (hF : 1 ≤ sF S) : wayC (exiJ S t).2.1 ∧ wayC (exiJ S t).2.2.1 := by
  unfold exiJ
  split
  · exact ⟨wayC_0, wayC_0⟩
  · split
    · exact ⟨wayC_0, wayC_0⟩
    · split
      · split <;> exact ⟨wayC_0, wayC_0⟩
      · refine ⟨wayC_1 (can_unsA (can_w (S := (sF S - 1, sV S, sB S, sH S)) (fun k hk => ?_) (can_r h hF (by omega)))), wayC_0⟩
        have hk : k < 26 * (sF S - 1) := hk
        exact h k (by omega)
theorem can_hlp (h : canS S) {x n : Int} : wayC (hlpJ E S x n t).2.1 ∧ wayC (hlpJ E S x n t).2.2.1 := by
  have hs : canS (hlpS S x) := by
    unfold hlpS
    split
    · exact can_put h
    · split
      · refine can_all h fun v hv => ?_
        unfold pktV
        split
        · exact can_uns
        · exact hv
      · split
        · refine can_all (S := relH S _) h fun v hv => ?_
          unfold recV
          split
          · exact can_uns
          · exact hv
        · exact h
  unfold hlpJ
  split
  · exact ⟨wayC_0, wayC_0⟩
  · split
    · exact ⟨wayC_1 (can_w (can_unsA h) (can_mk (by decide))), wayC_0⟩
    · split
      · refine ⟨wayC_1 (fun k hk => ?_), wayC_0⟩
        exact can_w (S := unsA S) (r := 0) (v := mkV 10 (jV (vn (rgV S 2))).toInt (t + 1)) (can_unsA h) (can_mk (by decide)) k hk
      · exact ⟨wayC_1 (can_w (can_unsA hs) (can_num _)), wayC_0⟩
theorem can_way {f n t' : Int} (h : f = 0 → canS S) : wayC (wayJ f n S t').2.1 ∧ wayC (wayJ f n S t').2.2.1 := by
  unfold wayJ
  split
  · rename_i e
    exact ⟨wayC_1 (h e), wayC_0⟩
  · exact ⟨wayC_0, wayC_0⟩
theorem stp_can (h : canS S) (ho : okS E t S) {w w2 : B64} {i : Int} (hw : okI w w2) : wayC (stpJ E S i w w2 t).2.1 ∧ wayC (stpJ E S i w w2 t).2.2.1 := by
  have hF := ho.1.1
  have fr := fld_rng w
  unfold stpJ
  by_cases l0 : fL w = 0
  · rw [if_pos l0]
    split
    · exact ⟨wayC_1 (can_w h (can_num _)), wayC_0⟩
    · split
      · exact ⟨wayC_0, wayC_0⟩
      · exact ⟨wayC_1 (can_w h (can_mk (by decide))), wayC_0⟩
  · rw [if_neg l0]
    have hw : okPl w := by
      rcases hw with hw | hw
      · exact absurd hw.1 l0
      · exact hw
    unfold okPl at hw
    rw [if_neg l0] at hw
    by_cases l4 : fL w = 4 ∨ fL w = 7
    · rw [if_pos l4] at hw ⊢
      refine can_way fun _ => can_w h (can_alu h hF hw.1.1 fun r c1 c2 => ?_)
      have := hw.2
      rw [if_neg c1, if_neg c2, if_pos r] at this
      exact this.1.1
    · rw [if_neg l4] at hw ⊢
      by_cases l5 : fL w = 5 ∨ fL w = 6
      · rw [if_pos l5] at hw ⊢
        split
        · exact ⟨wayC_1 h, wayC_0⟩
        · split
          · exact can_exi h hF
          · split
            · split
              · exact can_ent h hF
              · exact can_hlp h
            · exact can_cmp h
      · rw [if_neg l5] at hw ⊢
        unfold okMem at hw
        by_cases l1 : fL w = 1
        · rw [if_pos l1] at hw ⊢
          exact can_way fun z => can_w h (can_lod h ho hw.2.2.1 z)
        · rw [if_neg l1] at hw ⊢
          by_cases m : fL w = 3 ∧ fM w = 192
          · rw [if_pos m]
            exact can_way fun _ => can_swp h
          · rw [if_neg m]
            refine can_way fun _ => can_sto h hF fun l3 => ?_
            rw [if_neg (by omega)] at hw
            by_cases m96 : fM w = 96
            · rw [if_pos m96] at hw
              exact hw.2.1
            · exfalso
              refine m ⟨l3, ?_⟩
              rw [if_neg m96] at hw
              unfold fM
              omega
end CN
