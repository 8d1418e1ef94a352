/-! ===== numbers of the judge are good; words that it comes to ===== -/
def okM (S : ST) : Prop := ∀ k : Nat, k < 26 * sF S → okN (vn (sV S k))
theorem okN_addN (x y : N6) : okN (addN x y) := okN_add x y
theorem okN_cutT {x : N6} (h : okN x) : okN (cutT x) := okN_td (okN_cut h)
theorem okN_op {c off : Int} {x y : N6} (hx : okN x) : okN (opN c off x y) := by
  unfold opN
  split
  · exact okN_td (okN_add _ _)
  · split
    · exact okN_td (okN_sub _ _)
    · split
      · exact okN_td (okN_mul _ _)
      · split
        · split
          · split
            · exact okN_cst _
            · exact okN_any
          · split
            · exact okN_td (okN_div _ _)
            · exact okN_td (okN_rem _ _)
        · split
          · exact okN_td (okN_or _ _)
          · split
            · exact okN_td (okN_and _ _)
            · split
              · exact okN_td (okN_xor _ _)
              · split
                · split
                  · exact okN_td (okN_shl hx _)
                  · exact okN_any
                · split
                  · split
                    · exact okN_td (okN_shr hx _)
                    · exact okN_td (dis_0 _)
                  · split
                    · exact okN_td (okN_sar hx _)
                    · exact okN_td (dis_0 _)
theorem okN_opW {c off : Int} {x y : N6} (hx : okN x) : okN (opW c off x y) := by
  unfold opW
  split
  · split
    · exact okN_cst _
    · exact okN_wide _
  · exact okN_cutT (okN_op (okN_cutT hx))
theorem okN_ext {n : Nat} {x : N6} : okN (extN n x) := by
  unfold extN
  split
  · exact okN_cst _
  · exact okN_td (okN_sgn _)
theorem okN_extW {n : Nat} {x : N6} : okN (extW n x) := by
  unfold extW
  split
  · exact okN_cst _
  · exact okN_cutT (okN_td (okN_sgn _))
theorem okN_trn {le : Bool} {n : Nat} {x : N6} : okN (trnN le n x) := by
  unfold trnN
  split
  · exact okN_cst _
  · exact okN_wide _
theorem okN_both {x y : N6} (hx : okN x) (hy : okN y) : okN (bothN x y) := fun i h => by
  have h : (jM x &&& jM y).getLsbD i = true := h
  show (jV x ||| jV y).getLsbD i = false
  rw [BitVec.getLsbD_and] at h
  simp only [Bool.and_eq_true] at h
  rw [BitVec.getLsbD_or, hx i h.1, hy i h.2]
  rfl
theorem okN_nar {c : Int} {is : Bool} {x y : N6} (hx : okN x) (hy : okN y) : okN (narN c is x y).1 ∧ okN (narN c is x y).2 := by
  have les : ∀ a b t, okN a → okN b → okN (lesN a b t).1 ∧ okN (lesN a b t).2 := fun a b t ha hb => ⟨ha, hb⟩
  have leS : ∀ a b t, okN a → okN b → okN (lesS a b t).1 ∧ okN (lesS a b t).2 := fun a b t ha hb => ⟨ha, hb⟩
  unfold narN
  split
  · split
    · exact ⟨okN_both hx hy, okN_both hx hy⟩
    · unfold unlN
      split
      · exact ⟨hx, hy⟩
      · split
        · exact ⟨hx, hy⟩
        · exact ⟨hx, hy⟩
  · split
    · split
      · refine ⟨fun i h => ?_, hy⟩
        have h : (jM x &&& ~~~ jV y).getLsbD i = true := h
        show (jV x ||| jV y).getLsbD i = false
        rw [BitVec.getLsbD_and, BitVec.getLsbD_not] at h
        simp only [Bool.and_eq_true] at h
        rw [BitVec.getLsbD_or, hx i h.1]
        simpa using h.2.2
      · split
        · refine ⟨fun i h => ?_, hy⟩
          have h : (jM x &&& ~~~ jV y).getLsbD i = true := h
          rw [BitVec.getLsbD_and] at h
          simp only [Bool.and_eq_true] at h
          exact hx i h.1
        · exact ⟨hx, hy⟩
    · repeat' split
      all_goals exact ⟨hx, hy⟩
section OM
variable {E : EV} {S : ST} {t : Int}
theorem okM_w (h : okM S) {r : Nat} {v : VL} (hv : okN (vn v)) : okM (wV S r v) := fun k hk => by
  show okN (vn (if k = 26 * (sF S - 1) + r then v else sV S k))
  split
  · exact hv
  · exact h k hk
theorem okM_r (h : okM S) (hF : 1 ≤ sF S) {r : Nat} (hr : r ≤ 10) : okN (vn (rgV S r)) := by
  unfold rgV
  split
  · exact okN_cst _
  · exact h _ (by omega)
theorem okM_all (h : okM S) {g : VL → VL} (hg : ∀ v, okN (vn v) → okN (vn (g v))) : okM (allV S g) := fun k hk => by
  have hk : k < 26 * sF S := hk
  show okN (vn (if k < 26 * sF S then g (sV S k) else sV S k))
  rw [if_pos hk]
  exact hg _ (h k hk)
theorem okM_put (h : okM S) {f b n k : Nat} : okM (putB S f b n k) := fun j hj => by
  show okN (vn (if 26 * f + 10 + b / 8 ≤ j ∧ j ≤ 26 * f + 10 + (b + n - 1) / 8 ∧ 0 < n then _ else sV S j))
  split
  · show okN (vn (unpV (sV S j)))
    unfold unpV
    split
    · exact h j hj
    · exact okN_cst _
  · exact h j hj
theorem okM_becZ (h : okM S) {T k : Int} : okM (becZ S T k) := by
  have a : okM (allV S (zerV T)) := okM_all h fun v hv => by
    unfold zerV
    split
    · exact okN_cst _
    · exact hv
  unfold becZ
  split
  · exact a
  · exact a
theorem okM_plc (h : okM S) {T : Int} : okM (allV S (plcV T)) := okM_all h fun v hv => by
  unfold plcV
  split
  · exact okN_cst _
  · exact hv
theorem okM_rch (h : okM S) {T n : Int} : okM (allV S (rchV T n)) := okM_all h fun v hv => by
  unfold rchV
  split <;> exact hv
theorem okM_uns (h : okM S) : okM (unsA S) := fun k hk => by
  show okN (vn (if 26 * (sF S - 1) + 1 ≤ k ∧ k ≤ 26 * (sF S - 1) + 5 then unsV else sV S k))
  split
  · exact okN_cst _
  · exact h k hk
theorem okM_shf {p : VL} {n : N6} {c t : Int} (hp : okN (vn p)) : okN (vn (shfV p n c t).2.1) := by
  unfold shfV
  split
  · generalize (if c = 0 then jV n else - jV n) = d
    split
    · exact hp
    · exact hp
  · split
    · exact hp
    · split
      · exact hp
      · split
        · exact okN_td (okN_add _ _)
        · exact okN_td (okN_add _ _)
theorem okM_rgt (h : okM S) (hF : 1 ≤ sF S) {w : B64} (hr : rgt w → fS w ≤ 10) : okN (vn (rgtV S w)) := by
  unfold rgtV
  split
  · rename_i r
    exact okM_r h hF (sR_10 (hr r))
  · exact okN_cst _
theorem okM_alu (h : okM S) (hF : 1 ≤ sF S) {w : B64} (hd : fD w ≤ 9) (hr : rgt w → ¬ fC w = 208 → ¬ fC w = 128 → fS w ≤ 10) : okN (vn (aluV S w t).2.1) := by
  have hx := okM_r h hF (r := dR w) (Nat.le_of_lt (dR_9 hd))
  have u : okN (vn unsV) := okN_cst _
  unfold aluV
  split
  · split
    · exact u
    · exact okN_trn
  · rename_i c1
    split
    · exact u
    · split
      · exact u
      · split
        · have hy : okN (vn (rgtV S w)) := okM_rgt h hF fun r => hr r c1 (by omega)
          unfold movV
          split
          · exact hy
          · split
            · exact hy
            · split
              · exact okN_cutT (okN_cutT hy)
              · split
                · exact okN_ext
                · exact okN_extW
        · split
          · split
            · exact u
            · split
              · exact okN_td (okN_sub _ _)
              · exact okN_cutT (okN_td (okN_sub _ _))
          · rename_i c2
            have hy : okN (vn (rgtV S w)) := okM_rgt h hF fun r => hr r c1 c2
            split
            · exact okM_shf hx
            · split
              · exact okM_shf hy
              · split
                · exact u
                · split
                  · exact okN_op hx
                  · exact okN_opW hx
theorem okM_lod (h : okM S) (ho : okS E t S) {w : B64} (hs : fS w ≤ 10) (hf : (lodV E S w).1 = 0) : okN (vn (lodV E S w).2) := by
  have u : okN (vn unsV) := okN_cst _
  have ox := rV_ok ho (r := sRr w) (sR_10 hs)
  unfold lodV at hf ⊢
  by_cases c0 : vk (rgV S (sRr w)) = 0
  · rw [if_pos c0]; exact u
  · rw [if_neg c0] at hf ⊢
    by_cases c2 : vk (rgV S (sRr w)) = 2
    · rw [if_pos c2]
      split
      · exact u
      · split
        · exact okN_cst _
        · exact okN_wide _
    · rw [if_neg c2] at hf ⊢
      by_cases c3 : ¬ plcF (rgV S (sRr w)) = 0
      · rw [if_pos c3]; exact u
      · rw [if_neg c3] at hf ⊢
        by_cases c4 : ¬ room E (rgV S (sRr w)) (fO w) (bytN w)
        · rw [if_pos c4]; exact u
        · rw [if_neg c4] at hf ⊢
          by_cases c5 : vk (rgV S (sRr w)) = 3 ∧ (bytN w = 8 ∧ (vo (rgV S (sRr w)) + fO w + 128) % 8 = 0) ∧ ¬ vk (sV S (26 * (vw (rgV S (sRr w))).toNat + 10 + (vo (rgV S (sRr w)) + fO w + 128).toNat / 8)) = 0
          · rw [if_pos c5]
            have v3 := ox.2.2.1 c5.1
            have rm : -128 ≤ vo (rgV S (sRr w)) + fO w ∧ vo (rgV S (sRr w)) + fO w ≤ -(bytN w : Int) := by
              have := Decidable.not_not.mp c4
              unfold room at this
              rwa [if_pos c5.1] at this
            have := ho.1
            exact h _ (by omega)
          · rw [if_neg c5] at hf ⊢
            split
            · exact u
            · split
              · exact okN_td (okN_sgn _)
              · exact okN_wide _
theorem okM_sto (h : okM S) (hF : 1 ≤ sF S) {w : B64} (hs : fL w = 3 → fS w ≤ 10) : okM (stoV E S w).2 := by
  have hv : okN (vn (if fL w = 3 then rgV S (sRr w) else numV (cstN (BitVec.ofInt 64 (fI w))))) := by
    split
    · rename_i e
      exact okM_r h hF (sR_10 (hs e))
    · exact okN_cst _
  unfold stoV
  generalize (if fL w = 3 then rgV S (sRr w) else numV (cstN (BitVec.ofInt 64 (fI w)))) = V at *
  split
  · exact h
  · split
    · exact h
    · split
      · split
        · exact h
        · split <;> exact h
      · split
        · exact h
        · split
          · exact h
          · split
            · exact h
            · split
              · intro k hk
                have hk : k < 26 * sF S := hk
                show okN (vn (if k = 26 * (vw (rgV S (dR w))).toNat + 10 + (vo (rgV S (dR w)) + fO w + 128).toNat / 8 then V else sV S k))
                split
                · exact hv
                · exact h k hk
              · split
                · exact okM_put h
                · exact h
theorem okM_swp (h : okM S) {w : B64} : okM (swpV E S w).2 := by
  have a : okM (if vk (rgV S (dR w)) = 3 then putB S (vw (rgV S (dR w))).toNat (vo (rgV S (dR w)) + fO w + 128).toNat (bytN w) (bytN w) else S) := by
    split
    · exact okM_put h
    · exact h
  unfold swpV
  split
  · exact h
  · split
    · exact h
    · split
      · exact h
      · split
        · exact h
        · split
          · exact h
          · split
            · exact h
            · show okM (if fI w = 241 then _ else _)
              split
              · exact okM_w a (okN_wide _)
              · split
                · exact okM_w a (okN_wide _)
                · exact a
/-- the words that a way goes on at, and where its FUNCTIONS go back -/
def okG (G : Int → Prop) (S : ST) : Prop := ∀ f : Nat, 1 ≤ f → f < sF S → G (sB S f)
def wayM (G : Int → Prop) (w : WY) : Prop := ∀ n S, w = some (n, S) → okM S ∧ G n ∧ okG G S
theorem wayM_0 {G : Int → Prop} : wayM G none := fun _ _ e => by cases e
theorem wayM_1 {G : Int → Prop} {n : Int} (h : okM S) (hn : G n) (hg : okG G S) : wayM G (some (n, S)) := fun _ _ e => by cases e; exact ⟨h, hn, hg⟩
theorem nrw_m (h : okM S) (hF : 1 ≤ sF S) {w : B64} (hd : fD w ≤ 10) (hs : rgt w → fS w ≤ 10) {c : Int} {is : Bool} : okM (nrwS S w c is (vn (rgV S (dR w))) (vn (sidJ S w))) := by
  have hx := okM_r h hF (dR_10 hd)
  have hy : okN (vn (sidJ S w)) := by
    unfold sidJ
    split
    · rename_i r
      exact okM_r h hF (sR_10 (hs r))
    · exact okN_cst _
  have q := okN_nar (c := c) (is := is) hx hy
  unfold nrwS
  split
  · exact okM_w (okM_w h (okN_td q.1)) (okN_td q.2)
  · exact okM_w h (okN_td q.1)
theorem num_m {G : Int → Prop} (h : okM S) (hg : okG G S) (hF : 1 ≤ sF S) {w : B64} (hd : fD w ≤ 10) (hs : rgt w → fS w ≤ 10) {g n : Int} (g1 : G g) (g2 : G n) : wayM G (numJ S w g n t).2.1 ∧ wayM G (numJ S w g n t).2.2.1 := by
  have nm : ∀ is, okM (nrwS S w (fC w) is (vn (rgV S (dR w))) (vn (sidJ S w))) := fun is => nrw_m h hF hd hs
  have ng : ∀ is, okG G (nrwS S w (fC w) is (vn (rgV S (dR w))) (vn (sidJ S w))) := fun is => by
    unfold nrwS
    split <;> exact hg
  unfold numJ
  split
  · exact ⟨wayM_1 h g1 hg, wayM_0⟩
  · split
    · exact ⟨wayM_1 h g2 hg, wayM_0⟩
    · split
      · exact ⟨wayM_1 h g2 hg, wayM_1 h g1 hg⟩
      · split
        · split
          · exact ⟨wayM_1 (nm _) g2 (ng _), wayM_1 (nm _) g1 (ng _)⟩
          · exact ⟨wayM_1 (nm _) g1 (ng _), wayM_0⟩
        · split
          · exact ⟨wayM_1 (nm _) g2 (ng _), wayM_0⟩
          · exact ⟨wayM_0, wayM_0⟩
theorem rch_m {G : Int → Prop} (h : okM S) (hg : okG G S) {p : VL} {c g n : Int} (g1 : G g) (g2 : G n) : wayM G (rchJ S p c g n t).2.1 ∧ wayM G (rchJ S p c g n t).2.2.1 := by
  have a : ∀ x, okM (allV S (rchV (vt p) x)) := fun x => okM_rch h
  have b : ∀ x, okG G (allV S (rchV (vt p) x)) := fun x => hg
  unfold rchJ
  refine ⟨fun m S' e => ?_, fun m S' e => ?_⟩
  · have e : some (n, _) = some (m, S') := e
    cases e
    refine ⟨?_, g2, ?_⟩
    · split
      · exact a _
      · split
        · exact a _
        · exact h
    · split
      · exact b _
      · split
        · exact b _
        · exact hg
  · have e : some (g, _) = some (m, S') := e
    cases e
    refine ⟨?_, g1, ?_⟩
    · split
      · exact a _
      · split
        · exact a _
        · exact h
    · split
      · exact b _
      · split
        · exact b _
        · exact hg
theorem cmp_m {G : Int → Prop} (h : okM S) (hg : okG G S) (hF : 1 ≤ sF S) {w : B64} (hd : fD w ≤ 10) (hs : rgt w → fS w ≤ 10) {g n : Int} (g1 : G g) (g2 : G n) : wayM G (cmpJ S w g n t).2.1 ∧ wayM G (cmpJ S w g n t).2.2.1 := by
  have bg : ∀ T k, okG G (becZ S T k) := fun T k => by unfold becZ; split <;> exact hg
  unfold cmpJ
  split
  · exact ⟨wayM_0, wayM_0⟩
  · split
    · exact num_m h hg hF hd hs g1 g2
    · split
      · split
        · exact ⟨wayM_1 (okM_plc h) g2 hg, wayM_1 (okM_becZ h) g1 (bg _ _)⟩
        · exact ⟨wayM_1 (okM_becZ h) g2 (bg _ _), wayM_1 (okM_plc h) g1 hg⟩
      · split
        · refine ⟨wayM_1 h ?_ hg, wayM_0⟩
          split
          · exact g1
          · exact g2
        · split
          · exact ⟨wayM_0, wayM_0⟩
          · split
            · exact rch_m h hg g1 g2
            · split
              · exact rch_m h hg g1 g2
              · exact ⟨wayM_0, wayM_0⟩
theorem ent_m {G : Int → Prop} (h : okM S) (hg : okG G S) (hF : 1 ≤ sF S) {g n : Int} (g1 : G g) (g2 : G n) : wayM G (entJ S g n t).2.1 ∧ wayM G (entJ S g n t).2.2.1 := by
  unfold entJ
  split
  · exact ⟨wayM_0, wayM_0⟩
  · refine ⟨wayM_1 (fun k hk => ?_) g1 (fun f f1 f2 => ?_), wayM_0⟩
    · have hk : k < 26 * (sF S + 1) := hk
      show okN (vn (if 26 * sF S + 1 ≤ k ∧ k ≤ 26 * sF S + 5 then sV S (k - 26) else (if 26 * sF S ≤ k ∧ k < 26 * sF S + 26 then unsV else sV S k)))
      split
      · exact h _ (by omega)
      · split
        · exact okN_cst _
        · exact h _ (by omega)
    · have f2 : f < sF S + 1 := f2
      show G (if f = sF S then n else sB S f)
      split
      · exact g2
      · exact hg f f1 (by omega)
theorem exi_m {G : Int → Prop} (h : okM S) (hg : okG G S) (hF : 1 ≤ sF S) : wayM G (exiJ S t).2.1 ∧ wayM G (exiJ S t).2.2.1 := by
  unfold exiJ
  split
  · exact ⟨wayM_0, wayM_0⟩
  · split
    · exact ⟨wayM_0, wayM_0⟩
    · split
      · split <;> exact ⟨wayM_0, wayM_0⟩
      · rename_i f1
        have f1 : ¬ sF S = 1 := f1
        refine ⟨wayM_1 (okM_uns (okM_w (S := (sF S - 1, sV S, sB S, sH S)) (fun k hk => ?_) (okM_r h hF (by omega)))) (hg _ (by omega) (by omega)) (fun f a1 a2 => ?_), wayM_0⟩
        · have hk : k < 26 * (sF S - 1) := hk
          exact h k (by omega)
        · have a2 : f < sF S - 1 := a2
          exact hg f a1 (by omega)
theorem hlp_m {G : Int → Prop} (h : okM S) (hg : okG G S) {x n : Int} (g2 : G n) : wayM G (hlpJ E S x n t).2.1 ∧ wayM G (hlpJ E S x n t).2.2.1 := by
  have hs : okM (hlpS S x) ∧ okG G (hlpS S x) := by
    unfold hlpS
    split
    · exact ⟨okM_put h, hg⟩
    · split
      · refine ⟨okM_all h fun v hv => ?_, hg⟩
        unfold pktV
        split
        · exact okN_cst _
        · exact hv
      · split
        · refine ⟨okM_all (S := relH S _) h fun v hv => ?_, hg⟩
          unfold recV
          split
          · exact okN_cst _
          · exact hv
        · exact ⟨h, hg⟩
  unfold hlpJ
  split
  · exact ⟨wayM_0, wayM_0⟩
  · split
    · exact ⟨wayM_1 (okM_w (okM_uns h) (okN_cst _)) g2 hg, wayM_0⟩
    · split
      · refine ⟨wayM_1 (fun k hk => ?_) g2 hg, wayM_0⟩
        exact okM_w (S := unsA S) (r := 0) (v := mkV 10 (jV (vn (rgV S 2))).toInt (t + 1)) (okM_uns h) (okN_cst _) k hk
      · refine ⟨wayM_1 (okM_w (okM_uns hs.1) ?_) g2 hs.2, wayM_0⟩
        show okN (if x = 7 then wideN 4 else anyN)
        split
        · exact okN_wide _
        · exact okN_any
/-- G: the words at which instructions begin; p: the words -/
def okP (G : Int → Prop) (p : Int → B64) : Prop := ∀ i, G i → okI (p i) (p (i + 1)) ∧ (fL (p i) = 0 → G (i + 2)) ∧ (¬ fL (p i) = 0 → ¬ fOp (p i) = 149 → ¬ fOp (p i) = 5 → ¬ fOp (p i) = 6 → G (i + 1)) ∧ ((fL (p i) = 5 ∨ fL (p i) = 6) → ¬ fOp (p i) = 149 → (fOp (p i) = 133 → fS (p i) = 1) → G (goal i (p i)))
theorem way_m {G : Int → Prop} {f n t' : Int} (h : okM S) (hn : G n) (hg : okG G S) : wayM G (wayJ f n S t').2.1 ∧ wayM G (wayJ f n S t').2.2.1 := by
  unfold wayJ
  split
  · exact ⟨wayM_1 h hn hg, wayM_0⟩
  · exact ⟨wayM_0, wayM_0⟩
theorem stp_m {G : Int → Prop} {p : Int → B64} (hp : okP G p) (h : okM S) (ho : okS E t S) (hg : okG G S) {i : Int} (hi : G i) : wayM G (stpJ E S i (p i) (p (i + 1)) t).2.1 ∧ wayM G (stpJ E S i (p i) (p (i + 1)) t).2.2.1 := by
  obtain ⟨p1, p2, p3, p4⟩ := hp i hi
  have hF := ho.1.1
  have fr := fld_rng (p i)
  generalize p i = w at *
  generalize p (i + 1) = w2 at *
  unfold stpJ
  by_cases l0 : fL w = 0
  · rw [if_pos l0]
    split
    · exact ⟨wayM_1 (okM_w h (okN_cst _)) (p2 l0) hg, wayM_0⟩
    · split
      · exact ⟨wayM_0, wayM_0⟩
      · exact ⟨wayM_1 (okM_w h (okN_cst _)) (p2 l0) hg, wayM_0⟩
  · rw [if_neg l0]
    have hw : okPl w := by
      rcases p1 with hw | hw
      · exact absurd hw.1 l0
      · exact hw
    unfold okPl at hw
    rw [if_neg l0] at hw
    have e5 : fOp w = 5 → fL w = 5 := fun e => by unfold fL; omega
    have e6 : fOp w = 6 → fL w = 6 := fun e => by unfold fL; omega
    have e9 : fOp w = 149 → fL w = 5 := fun e => by unfold fL; omega
    by_cases l4 : fL w = 4 ∨ fL w = 7
    · rw [if_pos l4] at hw ⊢
      have gn := p3 l0 (fun e => by have := e9 e; omega) (fun e => by have := e5 e; omega) (fun e => by have := e6 e; omega)
      refine way_m (okM_w h (okM_alu h hF hw.1.1 fun r c1 c2 => ?_)) gn hg
      have := hw.2
      rw [if_neg c1, if_neg c2, if_pos r] at this
      exact this.1.1
    · rw [if_neg l4] at hw ⊢
      by_cases l5 : fL w = 5 ∨ fL w = 6
      · rw [if_pos l5] at hw ⊢
        unfold okJmp at hw
        by_cases j1 : fOp w = 5 ∨ fOp w = 6
        · rw [if_pos j1]
          exact ⟨wayM_1 h (p4 l5 (by omega) (fun e => by omega)) hg, wayM_0⟩
        · rw [if_neg j1]
          rw [if_neg (fun e => j1 (Or.inl e)), if_neg (fun e => j1 (Or.inr e))] at hw
          by_cases j2 : fOp w = 149
          · rw [if_pos j2]
            exact exi_m h hg hF
          · rw [if_neg j2]
            have gn := p3 l0 j2 (fun e => j1 (Or.inl e)) (fun e => j1 (Or.inr e))
            by_cases j3 : fOp w = 133
            · rw [if_pos j3]
              by_cases s1 : fS w = 1
              · rw [if_pos s1]
                exact ent_m h hg hF (p4 l5 j2 (fun _ => s1)) gn
              · rw [if_neg s1]
                exact hlp_m h hg gn
            · rw [if_neg j3]
              rw [if_neg j3, if_neg j2] at hw
              refine cmp_m h hg hF hw.1.2 (fun r => ?_) (p4 l5 j2 (fun e => absurd e j3)) gn
              have := hw.2
              rw [if_pos r] at this
              exact this.1
      · rw [if_neg l5] at hw ⊢
        unfold okMem at hw
        have gn := p3 l0 (fun e => by have := e9 e; omega) (fun e => by have := e5 e; omega) (fun e => by have := e6 e; omega)
        by_cases l1 : fL w = 1
        · rw [if_pos l1] at hw ⊢
          by_cases z : (lodV E S w).1 = 0
          · exact way_m (okM_w h (okM_lod h ho hw.2.2.1 z)) gn hg
          · unfold wayJ
            rw [if_neg z]
            exact ⟨wayM_0, wayM_0⟩
        · rw [if_neg l1] at hw ⊢
          by_cases m : fL w = 3 ∧ fM w = 192
          · rw [if_pos m]
            refine way_m (okM_swp h) gn ?_
            unfold swpV
            repeat' split
            all_goals exact hg
          · rw [if_neg m]
            have fl : fL w = 2 ∨ fL w = 3 := by
              have : 0 ≤ fL w ∧ fL w < 8 := by unfold fL; omega
              omega
            have wv : fL w = 3 → fS w ≤ 10 := by
              intro l3
              rw [if_neg (by omega)] at hw
              by_cases m96 : fM w = 96
              · rw [if_pos m96] at hw
                exact hw.2.1
              · exfalso
                refine m ⟨l3, ?_⟩
                rw [if_neg m96] at hw
                unfold fM
                omega
            refine way_m (okM_sto h hF wv) gn ?_
            unfold stoV
            repeat' split
            all_goals exact hg
end OM
