/-! ===== a state that is well made stays so ===== -/
section OK
variable {E : EV} {S : ST} {t : Int}
abbrev okR (E : EV) (S : ST) (t : Int) (v : VL) : Prop := okV E (sF S - 1) t v ∧ (vk v = 9 ∨ vk v = 10 → ∃ k, k < 26 * sF S ∧ vk (sV S k) = vk v ∧ vt (sV S k) = vt v)
theorem okR_num {n : N6} : okR E S t (numV n) := ⟨okV_num, fun q => by have k1 : vk (numV n) = 1 := rfl; exfalso; omega⟩
theorem okR_r (ho : okS E t S) {r : Nat} (hr : r ≤ 10) : okR E S t (rgV S r) := ⟨rV_ok ho hr, rV_at ho hr⟩
theorem okR_w {t' : Int} (ho : okS E t S) (ht : t ≤ t') {r : Nat} (hr : r < 10) {v : VL} (h : okR E S t' v) : okS E t' (wV S r v) := wV_ok ho ht hr h.1 h.2
theorem shf_ok {p : VL} {n : N6} {c : Int} {g : Nat} (ht : 0 ≤ t) (ov : okV E g t p) (h : (shfV p n c t).1 = 0) : t ≤ (shfV p n c t).2.2 ∧ okV E g (shfV p n c t).2.2 (shfV p n c t).2.1 ∧ vk (shfV p n c t).2.1 = vk p ∧ (vk p = 9 → vt (shfV p n c t).2.1 = vt p) := by
  obtain ⟨h1, h2, h3, h4, h5, h6, h7, h8, h9, h10⟩ := ov
  unfold shfV at h ⊢
  by_cases hC : isC n
  · rw [if_pos hC] at h ⊢
    generalize (if c = 0 then jV n else - jV n) = d at *
    split at h
    · exfalso; have h : (5 : Int) = 0 := h; omega
    · rename_i q
      rw [if_neg q]
      exact ⟨Int.le_refl _, ⟨h1, fun _ => by show -4096 ≤ vo p + d.toInt ∧ vo p + d.toInt ≤ 4096; omega, h3, h4, h5, h6, h7, h8, h9, h10⟩, rfl, fun _ => rfl⟩
  · rw [if_neg hC] at h ⊢
    split at h
    · exfalso; have h : (4 : Int) = 0 := h; omega
    · rename_i q
      rw [if_neg q]
      split at h
      · exfalso; have h : (5 : Int) = 0 := h; omega
      · rename_i q2
        rw [if_neg q2]
        have u : (jB (tdN (addN (vn p) n))).toNat ≤ 65535 := by
          rw [BitVec.lt_def] at q2
          have e : (65535#64).toNat = 65535 := rfl
          omega
        by_cases k7 : vk p = 7
        · rw [if_pos k7]
          refine ⟨by show t ≤ t + 1; omega, ⟨h1, h2, h3, h4, h5, fun _ => u, fun k => ?_, fun _ => ?_, h9, fun _ => by show (0 : Int) ≤ 4097; decide⟩, rfl, fun k => by exfalso; omega⟩
          · have k : vk p = 6 ∨ vk p = 9 ∨ vk p = 10 := k
            exfalso; omega
          · show 0 ≤ t + 1 ∧ t + 1 ≤ t + 1
            omega
        · rw [if_neg k7]
          exact ⟨Int.le_refl _, ⟨h1, h2, h3, h4, h5, fun _ => u, h7, h8, h9, h10⟩, rfl, fun _ => rfl⟩
theorem shf_R {p : VL} {n : N6} {c : Int} (ho : okS E t S) (hp : mvs p) (op : okR E S t p) (h : (shfV p n c t).1 = 0) : t ≤ (shfV p n c t).2.2 ∧ okR E S (shfV p n c t).2.2 (shfV p n c t).2.1 := by
  obtain ⟨a1, a2, a3, a4⟩ := shf_ok ho.2.2.2.2.2.2 op.1 h
  refine ⟨a1, a2, fun q => ?_⟩
  rw [a3] at q ⊢
  have k9 : vk p = 9 := by rcases hp with k | k | k | k <;> omega
  rw [a4 k9]
  exact op.2 q
theorem mov_R {w : B64} {y : VL} (oy : okR E S t y) (h : (movV w y).1 = 0) : okR E S t (movV w y).2 := by
  revert h
  unfold movV
  split
  · intro _; exact oy
  · split
    · rename_i q; intro h; exact absurd h q
    · split
      · intro _; exact okR_num
      · split <;> (intro _; exact okR_num)
theorem rgt_R (ho : okS E t S) {w : B64} (hr : rgt w → fS w ≤ 10) : okR E S t (rgtV S w) := by
  unfold rgtV
  split
  · rename_i r
    exact okR_r ho (sR_10 (hr r))
  · exact okR_num
theorem alu_ok (ho : okS E t S) {w : B64} (hw : okAlu w) (hf : (aluV S w t).1 = 0) : t ≤ (aluV S w t).2.2 ∧ okR E S (aluV S w t).2.2 (aluV S w t).2.1 := by
  obtain ⟨⟨d9, _⟩, hw2⟩ := hw
  have f := fld_rng w
  have od := okR_r ho (r := dR w) (Nat.le_of_lt (dR_9 d9))
  have oy : okR E S t (rgtV S w) := rgt_R ho fun r => by
    split at hw2
    · omega
    · split at hw2
      · exact absurd r hw2.1
      · exact hw2.1.1
  revert hf
  unfold aluV
  split
  · split
    · intro hf; rename_i q; exact absurd hf q
    · intro _; exact ⟨Int.le_refl _, okR_num⟩
  · split
    · intro hf; exfalso; have hf : (3 : Int) = 0 := hf; omega
    · split
      · intro hf; exfalso; have hf : (3 : Int) = 0 := hf; omega
      · split
        · intro hf
          exact ⟨Int.le_refl _, mov_R oy hf⟩
        · split
          · split
            · intro hf; rename_i q; exact absurd hf q
            · split
              · intro _; exact ⟨Int.le_refl _, okR_num⟩
              · intro _; exact ⟨Int.le_refl _, okR_num⟩
          · split
            · rename_i q; intro hf; exact shf_R ho q.2.2.1 od hf
            · split
              · rename_i q; intro hf; exact shf_R ho q.2.2.2 oy hf
              · split
                · intro hf; rename_i q; exact absurd hf q
                · split
                  · intro _; exact ⟨Int.le_refl _, okR_num⟩
                  · intro _; exact ⟨Int.le_refl _, okR_num⟩
theorem lod_ok (ho : okS E t S) {w : B64} (hs : fS w ≤ 10) (hf : (lodV E S w).1 = 0) : okR E S t (lodV E S w).2 := by
  have ox := rV_ok ho (r := sRr w) (sR_10 hs)
  have t0 : 0 ≤ t := ho.2.2.2.2.2.2
  revert hf
  unfold lodV
  split
  · intro hf; exfalso; have hf : (3 : Int) = 0 := hf; omega
  · split
    · split
      · intro hf; exfalso; have hf : (9 : Int) = 0 := hf; omega
      · split
        · intro _
          show okR E S t (mkV (if fO w = 0 then 7 else 8) 0 0)
          split
          · exact ⟨okV_7 t0, no_rec (by decide)⟩
          · exact ⟨okV_8, no_rec (by decide)⟩
        · intro _; exact okR_num
    · split
      · rename_i q; intro hf; exact absurd hf q
      · split
        · intro hf; exfalso; have hf : (5 : Int) = 0 := hf; omega
        · rename_i c4
          split
          · rename_i c5
            intro _
            have v3 := ox.2.2.1 c5.1
            have rm : -128 ≤ vo (rgV S (sRr w)) + fO w ∧ vo (rgV S (sRr w)) + fO w ≤ -(bytN w : Int) := by
              have := Decidable.not_not.mp c4
              unfold room at this
              rwa [if_pos c5.1] at this
            have F := ho.1
            have lt : 26 * (vw (rgV S (sRr w))).toNat + 10 + (vo (rgV S (sRr w)) + fO w + 128).toNat / 8 < 26 * sF S := by omega
            exact ⟨okV_up (by omega) (ho.2.1 _ lt), fun _ => ⟨_, lt, rfl, rfl⟩⟩
          · split
            · intro hf; exfalso; have hf : (6 : Int) = 0 := hf; omega
            · split
              · intro _; exact okR_num
              · intro _; exact okR_num
theorem sto_ok (ho : okS E t S) {w : B64} (hd : fD w ≤ 10) (hs : fL w = 3 → fS w ≤ 10) : okS E t (stoV E S w).2 := by
  have ox := rV_ok ho (r := dR w) (dR_10 hd)
  have ov : okR E S t (if fL w = 3 then rgV S (sRr w) else numV (cstN (BitVec.ofInt 64 (fI w)))) := by
    split
    · rename_i l
      exact okR_r ho (sR_10 (hs l))
    · exact okR_num
  have F := ho.1
  unfold stoV
  generalize (if fL w = 3 then rgV S (sRr w) else numV (cstN (BitVec.ofInt 64 (fI w)))) = y at *
  split
  · exact ho
  · split
    · exact ho
    · split
      · split
        · exact ho
        · split <;> exact ho
      · split
        · exact ho
        · split
          · exact ho
          · rename_i c4
            split
            · exact ho
            · rename_i c5
              split
              · rename_i c6
                have v3 := ox.2.2.1 c6.1
                have rm : -128 ≤ vo (rgV S (dR w)) + fO w ∧ vo (rgV S (dR w)) + fO w ≤ -(bytN w : Int) := by
                  have := Decidable.not_not.mp c4
                  unfold room at this
                  rwa [if_pos c6.1] at this
                have st : vk y = 3 → vw y ≤ vw (rgV S (dR w)) := fun k => by
                  refine Decidable.byContradiction fun q => c5 ⟨by omega, Or.inr ⟨k, by omega⟩⟩
                refine upP_ok ho (by omega) (by omega) ?_ ov.2
                obtain ⟨h1, h2, h3, h4⟩ := ov.1
                exact ⟨h1, h2, fun k => by have := h3 k; have := st k; omega, h4⟩
              · split
                · exact putB_ok ho
                · exact ho
theorem swp_ok (ho : okS E t S) {w : B64} (hs : fI w % 2 = 1 → ¬ fI w = 241 → fS w ≤ 9) : okS E t (swpV E S w).2 := by
  have a : okS E t (if vk (rgV S (dR w)) = 3 then putB S (vw (rgV S (dR w))).toNat (vo (rgV S (dR w)) + fO w + 128).toNat (bytN w) (bytN w) else S) := by
    split
    · exact putB_ok ho
    · exact ho
  have f := fld_rng w
  unfold swpV
  split
  · exact ho
  · split
    · exact ho
    · split
      · exact ho
      · split
        · exact ho
        · split
          · exact ho
          · split
            · exact ho
            · show okS E t (if fI w = 241 then _ else _)
              split
              · exact okR_w a (Int.le_refl _) (by omega) okR_num
              · rename_i n241
                split
                · rename_i q
                  exact okR_w a (Int.le_refl _) (by have := hs q n241; have e : sRr w = (fS w).toNat := rfl; omega) okR_num
                · exact a
theorem nrw_ok (ho : okS E t S) {w : B64} (hd : dR w < 10) (hs : rgt w → sRr w < 10) {c : Int} {is : Bool} {x y : N6} : okS E t (nrwS S w c is x y) := by
  unfold nrwS
  split
  · rename_i r
    exact okR_w (okR_w ho (Int.le_refl _) hd okR_num) (Int.le_refl _) (hs r) okR_num
  · exact okR_w ho (Int.le_refl _) hd okR_num
theorem num_ok (ho : okS E t S) {w : B64} (hd : dR w < 10) (hs : rgt w → sRr w < 10) {g n : Int} : resO E t (numJ S w g n t) := by
  have nm : ∀ is, okS E t (nrwS S w (fC w) is (vn (rgV S (dR w))) (vn (sidJ S w))) := fun is => nrw_ok ho hd hs
  unfold numJ
  split
  · exact ⟨Int.le_refl _, wayO_1 ho, wayO_0⟩
  · split
    · exact ⟨Int.le_refl _, wayO_1 ho, wayO_0⟩
    · split
      · exact ⟨Int.le_refl _, wayO_1 ho, wayO_1 ho⟩
      · split
        · split
          · exact ⟨Int.le_refl _, wayO_1 (nm _), wayO_1 (nm _)⟩
          · exact ⟨Int.le_refl _, wayO_1 (nm _), wayO_0⟩
        · split
          · exact ⟨Int.le_refl _, wayO_1 (nm _), wayO_0⟩
          · exact ⟨Int.le_refl _, wayO_0, wayO_0⟩
theorem rch_o (ho : okS E t S) {p : VL} (hp : vo p ≤ 4096) {c g n : Int} : resO E t (rchJ S p c g n t) := by
  have a : ∀ x, x ≤ 4097 → okS E t (allV S (rchV (vt p) x)) := fun x hx => rch_ok ho hx
  unfold rchJ
  refine ⟨Int.le_refl _, wayO_1 ?_, wayO_1 ?_⟩
  · show okS E t (if c = 32 then allV S (rchV (vt p) (vo p)) else if c = 48 then allV S (rchV (vt p) (vo p + 1)) else S)
    split
    · exact a (vo p) (by omega)
    · split
      · exact a (vo p + 1) (by omega)
      · exact ho
  · show okS E t (if c = 160 then allV S (rchV (vt p) (vo p + 1)) else if c = 176 then allV S (rchV (vt p) (vo p)) else S)
    split
    · exact a (vo p + 1) (by omega)
    · split
      · exact a (vo p) (by omega)
      · exact ho
theorem r10_3 {r : Nat} (hr : r ≤ 10) (h : ¬ vk (rgV S r) = 3) : r < 10 := by
  unfold rgV at h
  by_cases e : r = 10
  · rw [if_pos e] at h
    exact absurd rfl h
  · omega
theorem cmp_ok (ho : okS E t S) {w : B64} (hd : fD w ≤ 10) (hs : rgt w → fS w ≤ 10) {g n : Int} : resO E t (cmpJ S w g n t) := by
  have hy : okV E (sF S - 1) t (sidJ S w) := by
    unfold sidJ
    split
    · rename_i r
      exact rV_ok ho (sR_10 (hs r))
    · exact okV_num
  have hx := rV_ok ho (dR_10 hd)
  unfold cmpJ
  split
  · exact ⟨Int.le_refl _, wayO_0, wayO_0⟩
  · split
    · rename_i q
      refine num_ok ho (r10_3 (S := S) (dR_10 hd) (by omega)) fun r => ?_
      have e : sidJ S w = rgV S (sRr w) := by unfold sidJ; rw [if_pos r]
      exact r10_3 (S := S) (sR_10 (hs r)) (by rw [← e]; omega)
    · split
      · split
        · exact ⟨Int.le_refl _, wayO_1 (becP_ok ho), wayO_1 (becZ_ok ho)⟩
        · exact ⟨Int.le_refl _, wayO_1 (becZ_ok ho), wayO_1 (becP_ok ho)⟩
      · split
        · exact ⟨Int.le_refl _, wayO_1 ho, wayO_0⟩
        · split
          · exact ⟨Int.le_refl _, wayO_0, wayO_0⟩
          · split
            · rename_i q
              exact rch_o ho (hx.2.1 (by have := q.2.2.1; unfold mvs; omega)).2
            · split
              · rename_i q
                exact rch_o ho (hy.2.1 (by have := q.2.2.2; unfold mvs; omega)).2
              · exact ⟨Int.le_refl _, wayO_0, wayO_0⟩
theorem ent_ok (ho : okS E t S) {g n : Int} : resO E t (entJ S g n t) := by
  unfold entJ
  split
  · exact ⟨Int.le_refl _, wayO_0, wayO_0⟩
  · rename_i n4
    have n4 : ¬ sF S = 4 := n4
    obtain ⟨⟨o1, o2⟩, o3, o4, o5, o6, o7, o8⟩ := ho
    refine ⟨Int.le_refl _, wayO_1 ⟨?_, fun k hk => ?_, fun k k' hk hk' a b => ?_, o5, o6, o7, o8⟩, wayO_0⟩
    · show 1 ≤ sF S + 1 ∧ sF S + 1 ≤ 4
      omega
    · have hk : k < 26 * (sF S + 1) := hk
      show okV E (k / 26) t (if 26 * sF S + 1 ≤ k ∧ k ≤ 26 * sF S + 5 then sV S (k - 26) else (if 26 * sF S ≤ k ∧ k < 26 * sF S + 26 then unsV else sV S k))
      by_cases c1 : 26 * sF S + 1 ≤ k ∧ k ≤ 26 * sF S + 5
      · rw [if_pos c1]
        exact okV_up (by omega) (o3 (k - 26) (by omega))
      · rw [if_neg c1]
        split
        · exact okV_uns
        · exact o3 k (by omega)
    · have hk : k < 26 * (sF S + 1) := hk
      have hk' : k' < 26 * (sF S + 1) := hk'
      have src : ∀ j, j < 26 * (sF S + 1) → (∃ i, i < 26 * sF S ∧ (if 26 * sF S + 1 ≤ j ∧ j ≤ 26 * sF S + 5 then sV S (j - 26) else (if 26 * sF S ≤ j ∧ j < 26 * sF S + 26 then unsV else sV S j)) = sV S i) ∨ (if 26 * sF S + 1 ≤ j ∧ j ≤ 26 * sF S + 5 then sV S (j - 26) else (if 26 * sF S ≤ j ∧ j < 26 * sF S + 26 then unsV else sV S j)) = unsV := fun j hj => by
        by_cases c1 : 26 * sF S + 1 ≤ j ∧ j ≤ 26 * sF S + 5
        · rw [if_pos c1]
          exact Or.inl ⟨j - 26, by omega, rfl⟩
        · rw [if_neg c1]
          by_cases c2 : 26 * sF S ≤ j ∧ j < 26 * sF S + 26
          · rw [if_pos c2]
            exact Or.inr rfl
          · rw [if_neg c2]
            exact Or.inl ⟨j, by omega, rfl⟩
      have a : vk (if 26 * sF S + 1 ≤ k ∧ k ≤ 26 * sF S + 5 then sV S (k - 26) else (if 26 * sF S ≤ k ∧ k < 26 * sF S + 26 then unsV else sV S k)) = 9 := a
      have b : vk (if 26 * sF S + 1 ≤ k' ∧ k' ≤ 26 * sF S + 5 then sV S (k' - 26) else (if 26 * sF S ≤ k' ∧ k' < 26 * sF S + 26 then unsV else sV S k')) = 10 := b
      show ¬ vt (if 26 * sF S + 1 ≤ k ∧ k ≤ 26 * sF S + 5 then sV S (k - 26) else (if 26 * sF S ≤ k ∧ k < 26 * sF S + 26 then unsV else sV S k)) = vt (if 26 * sF S + 1 ≤ k' ∧ k' ≤ 26 * sF S + 5 then sV S (k' - 26) else (if 26 * sF S ≤ k' ∧ k' < 26 * sF S + 26 then unsV else sV S k'))
      have u0 : vk unsV = 0 := rfl
      rcases src k hk with ⟨i, i1, i2⟩ | e
      · rcases src k' hk' with ⟨i', i1', i2'⟩ | e'
        · rw [i2] at a ⊢
          rw [i2'] at b ⊢
          exact o4 i i' i1 i1' a b
        · rw [e'] at b
          exfalso; omega
      · rw [e] at a
        exfalso; omega
theorem fst_ok (ho : okS E t S) (h : ¬ sF S = 1) : okS E t ((sF S - 1, sV S, sB S, sH S) : ST) := by
  obtain ⟨⟨o1, o2⟩, o3, o4, o5, o6, o7, o8⟩ := ho
  refine ⟨⟨by show 1 ≤ sF S - 1; omega, by show sF S - 1 ≤ 4; omega⟩, fun k hk => ?_, fun k k' hk hk' => ?_, o5, o6, o7, o8⟩
  · have hk : k < 26 * (sF S - 1) := hk
    exact o3 k (by omega)
  · have hk : k < 26 * (sF S - 1) := hk
    have hk' : k' < 26 * (sF S - 1) := hk'
    exact o4 k k' (by omega) (by omega)
theorem okR_1 {v : VL} (k : vk v = 1) : okR E S t v := by
  refine ⟨⟨by omega, ?_, ?_, ?_, ?_, ?_, ?_, ?_, ?_, ?_⟩, fun e => by exfalso; omega⟩ <;> intro e <;> (exfalso; omega)
theorem exi_ok (ho : okS E t S) : resO E t (exiJ S t) := by
  unfold exiJ
  split
  · exact ⟨Int.le_refl _, wayO_0, wayO_0⟩
  · split
    · exact ⟨Int.le_refl _, wayO_0, wayO_0⟩
    · rename_i k1
      split
      · split <;> exact ⟨Int.le_refl _, wayO_0, wayO_0⟩
      · rename_i f1
        exact ⟨Int.le_refl _, wayO_1 (uns_ok (okR_w (fst_ok ho f1) (Int.le_refl _) (by omega) (okR_1 (Decidable.not_not.mp k1)))), wayO_0⟩
theorem hlp_ok (hE : okE E) (ho : okS E t S) {h n : Int} : resO E t (hlpJ E S h n t) := by
  have t0 : 0 ≤ t := ho.2.2.2.2.2.2
  have hs : okS E t (hlpS S h) := by
    unfold hlpS
    split
    · exact putB_ok ho
    · split
      · have u0 : vk unsV = 0 := rfl
        refine all_ok (hd' := sH S) ho (Int.le_refl _) (fun j hj => ?_) (fun j j' hj hj' p q => ?_) (hd_ok ho)
        · unfold pktV
          split
          · exact okV_uns
          · exact ho.2.1 j hj
        · have e : ∀ v, vk (pktV v) = 9 ∨ vk (pktV v) = 10 → pktV v = v := fun v hv => by
            unfold pktV at hv ⊢
            split at hv
            · exfalso; omega
            · rename_i c
              rw [if_neg c]
          have e1 := e _ (Or.inl p)
          have e2 := e _ (Or.inr q)
          rw [e1] at p ⊢
          rw [e2] at q ⊢
          exact ho.2.2.1 j j' hj hj' p q
      · split
        · generalize vt (rgV S 1) = T
          have u0 : vk unsV = 0 := rfl
          obtain ⟨h1, h2, h3⟩ := hd_ok ho
          have pk : ∀ v, recV T v = v ∨ recV T v = unsV := fun v => by
            unfold recV
            split
            · exact Or.inr rfl
            · exact Or.inl rfl
          show okS E t (sF S, (fun k => if k < 26 * sF S then recV T (sV S k) else sV S k), sB S, (sH S).filter fun x => decide (¬ x = T))
          refine all_ok (hd' := (sH S).filter fun x => decide (¬ x = T)) ho (Int.le_refl _) (fun j hj => ?_) (fun j j' hj hj' p q => ?_) ⟨fun x hx => h1 x (List.mem_filter.mp hx).1, h2.filter _, Nat.le_trans (List.length_filter_le _ _) h3⟩
          · rcases pk (sV S j) with e | e <;> rw [e]
            · exact ho.2.1 j hj
            · exact okV_uns
          · rcases pk (sV S j) with e | e
            · rcases pk (sV S j') with e' | e'
              · rw [e] at p ⊢
                rw [e'] at q ⊢
                exact ho.2.2.1 j j' hj hj' p q
              · rw [e'] at q; exfalso; omega
            · rw [e] at p; exfalso; omega
        · exact ho
  by_cases hf : hlpF E S h = 0
  · unfold hlpJ
    rw [if_neg (not_not_intro hf)]
    split
    · rename_i e1
      subst e1
      unfold hlpF at hf
      rw [if_pos (Or.inl rfl)] at hf
      have o1 := rV_ok ho (r := 1) (by omega)
      have a1 := (wntA_0 (fst_0 hf).1).2.2
      have a1 : vk (rgV S 1) = 4 ∧ 0 ≤ E.1 (vw (rgV S 1)).toNat ∧ E.1 (vw (rgV S 1)).toNat ≤ 1 := by simpa using a1
      have q := o1.2.2.2.1 a1.1
      have z := (hE (vw (rgV S 1)).toNat (by omega) q.2.2).2 a1.2.2
      have k6 : vk (mkV 6 (vw (rgV S 1)) (t + 1)) = 6 := rfl
      refine ⟨by show t ≤ t + 1; omega, wayO_1 (okR_w (S := unsA S) (t := t + 1) (uns_ok (okS_mono (by omega) ho)) (Int.le_refl _) (by omega) ⟨⟨by omega, ?_, ?_, ?_, fun _ => ⟨⟨q.1, q.2.1⟩, z.2⟩, ?_, fun _ => ?_, ?_, ?_, ?_⟩, fun e => by exfalso; omega⟩), wayO_0⟩
      · intro e; exfalso; unfold mvs at e; omega
      · intro e; exfalso; omega
      · intro e; exfalso; omega
      · intro e; exfalso; omega
      · show 1 ≤ t + 1 ∧ t + 1 ≤ t + 1
        omega
      · intro e; exfalso; omega
      · intro e; exfalso; omega
      · intro e; exfalso; omega
    · split
      · rename_i _ e131
        subst e131
        unfold hlpF at hf
        rw [if_neg (by decide), if_neg (by decide), if_neg (by decide), if_neg (by decide), if_neg (by decide), if_neg (by decide), if_neg (by decide), if_pos rfl] at hf
        obtain ⟨a, am⟩ := fst_0 hf
        obtain ⟨a, a3⟩ := fst_0 a
        obtain ⟨a1, a2⟩ := fst_0 a
        have a2 : vk (rgV S 2) = 1 ∧ isC (vn (rgV S 2)) ∧ 1 ≤ (jV (vn (rgV S 2))).toInt ∧ (jV (vn (rgV S 2))).toInt ≤ 64 := by simpa using (wntA_0 a2).2.2
        have len : (sH S).length < 64 := by
          have := (hd_ok ho).2.2
          split at am
          · exfalso; omega
          · omega
        have k10 : vk (mkV 10 (jV (vn (rgV S 2))).toInt (t + 1)) = 10 := rfl
        have u0 : vk unsV = 0 := rfl
        obtain ⟨⟨f1, f2⟩, b3, b4, b5, b6, b7, b8⟩ := uns_ok ho
        have ov : okV E (sF S - 1) (t + 1) (mkV 10 (jV (vn (rgV S 2))).toInt (t + 1)) := by
          refine ⟨by omega, ?_, ?_, ?_, ?_, ?_, fun _ => ?_, ?_, fun _ => a2.2.2, ?_⟩
          · intro e; exfalso; unfold mvs at e; omega
          · intro e; exfalso; omega
          · intro e; exfalso; omega
          · intro e; exfalso; omega
          · intro e; exfalso; omega
          · show 1 ≤ t + 1 ∧ t + 1 ≤ t + 1
            omega
          · intro e; exfalso; omega
          · intro e; exfalso; omega
        refine ⟨by show t ≤ t + 1; omega, wayO_1 ⟨⟨f1, f2⟩, fun k hk => ?_, fun k k' hk hk' p q => ?_, fun x hx => ?_, ?_, ?_, by show 0 ≤ t + 1; omega⟩, wayO_0⟩
        · have hk : k < 26 * sF S := hk
          show okV E (k / 26) (t + 1) (if k = 26 * (sF S - 1) + 0 then _ else sV (unsA S) k)
          by_cases e : k = 26 * (sF S - 1) + 0
          · rw [if_pos e, show k / 26 = sF S - 1 by omega]
            exact ov
          · rw [if_neg e]
            exact okV_mono (by omega) (b3 k hk)
        · have hk : k < 26 * sF S := hk
          have hk' : k' < 26 * sF S := hk'
          have p : vk (if k = 26 * (sF S - 1) + 0 then mkV 10 (jV (vn (rgV S 2))).toInt (t + 1) else sV (unsA S) k) = 9 := p
          have q : vk (if k' = 26 * (sF S - 1) + 0 then mkV 10 (jV (vn (rgV S 2))).toInt (t + 1) else sV (unsA S) k') = 10 := q
          show ¬ vt (if k = 26 * (sF S - 1) + 0 then mkV 10 (jV (vn (rgV S 2))).toInt (t + 1) else sV (unsA S) k) = vt (if k' = 26 * (sF S - 1) + 0 then mkV 10 (jV (vn (rgV S 2))).toInt (t + 1) else sV (unsA S) k')
          have ne : ¬ k = 26 * (sF S - 1) + 0 := fun e => by
            rw [if_pos e] at p
            exfalso; omega
          rw [if_neg ne] at p ⊢
          by_cases e : k' = 26 * (sF S - 1) + 0
          · rw [if_pos e]
            have := (b3 k hk).2.2.2.2.2.2.1 (Or.inr (Or.inl p))
            show ¬ vt (sV (unsA S) k) = t + 1
            omega
          · rw [if_neg e] at q ⊢
            exact b4 k k' hk hk' p q
        · have hx : x ∈ sH S ++ [t + 1] := hx
          show 1 ≤ x ∧ x ≤ t + 1
          rcases List.mem_append.mp hx with hx | hx
          · have := b5 x hx
            omega
          · rw [List.mem_singleton.mp hx]
            omega
        · show (sH S ++ [t + 1]).Nodup
          rw [List.nodup_append]
          refine ⟨b6, by simp, fun a ha b hb => ?_⟩
          rw [List.mem_singleton.mp hb]
          have := b5 a ha
          omega
        · show (sH S ++ [t + 1]).length ≤ 64
          rw [List.length_append]
          show (sH S).length + 1 ≤ 64
          omega
      · exact ⟨Int.le_refl _, wayO_1 (okR_w (uns_ok hs) (Int.le_refl _) (by omega) okR_num), wayO_0⟩
  · unfold hlpJ
    rw [if_pos hf]
    exact ⟨Int.le_refl _, wayO_0, wayO_0⟩
theorem way_ok {f n t' : Int} (ht : t ≤ t') (h : f = 0 → okS E t' S) : resO E t (wayJ f n S t') := by
  unfold wayJ
  split
  · rename_i e
    exact ⟨ht, wayO_1 (h e), wayO_0⟩
  · exact ⟨ht, wayO_0, wayO_0⟩
theorem stp_ok (hE : okE E) (ho : okS E t S) {w w2 : B64} {i : Int} (hw : okI w w2) (hf : (stpJ E S i w w2 t).1 = 0) : resO E t (stpJ E S i w w2 t) := by
  have f := fld_rng w
  unfold stpJ at hf ⊢
  by_cases l0 : fL w = 0
  · rw [if_pos l0] at hf ⊢
    have hp : okPr w w2 := by
      rcases hw with hw | hw
      · exact hw.2
      · exfalso
        have : okPl w := hw
        unfold okPl at this
        rw [if_pos l0] at this
        exact this
    obtain ⟨⟨_, d9, _⟩, hp2⟩ := hp
    by_cases s0 : fS w = 0
    · rw [if_pos s0]
      exact ⟨Int.le_refl _, wayO_1 (okR_w ho (Int.le_refl _) (dR_9 d9) okR_num), wayO_0⟩
    · rw [if_neg s0] at hf ⊢
      split at hf
      · exfalso; have hf : (15 : Int) = 0 := hf; omega
      · rename_i e0
        rw [if_neg e0]
        have i7 : 0 ≤ fI w ∧ fI w ≤ 7 := by omega
        have k1 : vk (mkV 4 (fI w) 0) = 4 := rfl
        have okm : okV E (sF S - 1) t (mkV 4 (fI w) 0) := by
          refine ⟨by omega, ?_, ?_, fun _ => ⟨i7.1, i7.2, by show 0 ≤ E.1 (fI w).toNat; omega⟩, ?_, ?_, ?_, ?_, ?_, ?_⟩
          all_goals (intro e; exfalso; omega)
        exact ⟨Int.le_refl _, wayO_1 (okR_w ho (Int.le_refl _) (dR_9 d9) ⟨okm, no_rec (by decide)⟩), wayO_0⟩
  · rw [if_neg l0] at hf ⊢
    have hw : okPl w := by
      rcases hw with hw | hw
      · exact absurd hw.1 l0
      · exact hw
    unfold okPl at hw
    rw [if_neg l0] at hw
    by_cases l4 : fL w = 4 ∨ fL w = 7
    · rw [if_pos l4] at hf ⊢ hw
      by_cases z : (aluV S w t).1 = 0
      · obtain ⟨a1, a2⟩ := alu_ok ho hw z
        exact way_ok a1 fun _ => okR_w ho a1 (dR_9 hw.1.1) a2
      · unfold wayJ at hf
        rw [if_neg z] at hf
        exact absurd hf z
    · rw [if_neg l4] at hf ⊢ hw
      by_cases l5 : fL w = 5 ∨ fL w = 6
      · rw [if_pos l5] at hf ⊢ hw
        unfold okJmp at hw
        by_cases j1 : fOp w = 5 ∨ fOp w = 6
        · rw [if_pos j1]
          exact ⟨Int.le_refl _, wayO_1 ho, wayO_0⟩
        · rw [if_neg j1]
          rw [if_neg (fun e => j1 (Or.inl e)), if_neg (fun e => j1 (Or.inr e))] at hw
          by_cases j2 : fOp w = 149
          · rw [if_pos j2]
            exact exi_ok ho
          · rw [if_neg j2]
            by_cases j3 : fOp w = 133
            · rw [if_pos j3]
              by_cases s1 : fS w = 1
              · rw [if_pos s1]
                exact ent_ok ho
              · rw [if_neg s1]
                exact hlp_ok hE ho
            · rw [if_neg j3]
              rw [if_neg j3, if_neg j2] at hw
              refine cmp_ok ho hw.1.2 fun r => ?_
              have := hw.2
              rw [if_pos r] at this
              exact this.1
      · rw [if_neg l5] at hf ⊢ hw
        unfold okMem at hw
        by_cases l1 : fL w = 1
        · rw [if_pos l1] at hf ⊢ hw
          refine way_ok (Int.le_refl _) fun z => okR_w ho (Int.le_refl _) (dR_9 hw.2.1) (lod_ok ho hw.2.2.1 z)
        · rw [if_neg l1] at hf ⊢ hw
          by_cases m : fL w = 3 ∧ fM w = 192
          · rw [if_pos m] at hf ⊢
            refine way_ok (Int.le_refl _) fun _ => swp_ok ho fun o n => ?_
            rw [if_neg (by omega)] at hw
            rw [if_neg (by omega)] at hw
            omega
          · rw [if_neg m] at hf ⊢
            have fl : fL w = 2 ∨ fL w = 3 := by
              have : 0 ≤ fL w ∧ fL w < 8 := by unfold fL; omega
              omega
            have wv : fD w ≤ 10 ∧ (fL w = 3 → fS w ≤ 10) := by
              rcases fl with l2 | l3
              · rw [if_pos l2] at hw
                exact ⟨hw.2.1, fun e => by omega⟩
              · rw [if_neg (by omega)] at hw
                by_cases m96 : fM w = 96
                · rw [if_pos m96] at hw
                  exact ⟨hw.1, fun _ => hw.2.1⟩
                · exfalso
                  refine m ⟨l3, ?_⟩
                  rw [if_neg m96] at hw
                  unfold fM
                  omega
            exact way_ok (Int.le_refl _) fun _ => sto_ok ho wv.1 wv.2
end OK
