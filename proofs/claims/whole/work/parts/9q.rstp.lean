/-! ===== the reference's runs: what a step keeps ===== -/
section RSTP
variable {c c' : TC WR} {W V U : WR} {w w2 x A a F v : B64} {r f b k n o s m e N : Nat} {y nx hh i : Int} {E : EV} {l key val : List Int} {S : Nat → Nat → MB} {u : SV} {G : Int → Prop} {p : Int → B64}
theorem bh_W (e : bhT c S W u nx = some (k, c')) : cW c' = W := by
  obtain ⟨_, ec⟩ := Prod.mk.inj (Option.some.inj e)
  rw [← ec]
theorem inv_ch {z z2 : B64} (h : invW W) : invW (W.1, z, z2) := h
theorem hp_i (h : invW (cW c)) (e : hpT RB RH E c hh nx = some (k, c')) : invW (cW c') := by
  unfold hpT at e
  by_cases q1 : hh = 1 ∨ hh = 2 ∨ hh = 3
  · rw [if_pos q1] at e
    by_cases mp : isMap (rdR c 1)
    · rw [if_neg (not_not_intro mp)] at e
      have hm : (mapT (rdR c 1)).toNat < 8 := by
        have : 8 ≤ (rdR c 1).1 ∧ (rdR c 1).1 ≤ 15 := mp
        show (((rdR c 1).1 : Int) - 8).toNat < 8
        omega
      split at e
      · cases e
      · split at e
        · split at e
          · rw [bh_W e]; exact h
          · rw [bh_W e]; exact h
        · split at e
          · rw [bh_W e]; exact inv_rem h hm
          · split at e
            · cases e
            · split at e
              · cases e
              · rw [bh_W e]; exact inv_upd h hm
    · rw [if_pos mp] at e
      cases e
  · rw [if_neg q1] at e
    split at e
    · rw [bh_W e]; exact h
    · split at e
      · split at e
        · cases e
        · split at e
          · cases e
          · rw [bh_W e]; exact inv_tra _ _ h
      · split at e
        · rw [bh_W e]
          have q : (RH.2.2.2.2.2.2.2.1 (cW c)).1 = ((cW c).1, chaX (cW c).2.1, (cW c).2.2) := rfl
          rw [q]
          exact inv_ch h
        · split at e
          · split at e
            · cases e
            · split at e
              · rename_i v hv
                cases e
                exact inv_tai h (show taiR (cW c) (mapT (rdR c 2)).toNat (rdR c 3).2 = some v from hv)
              · rw [bh_W e]; exact h
          · split at e
            · split at e
              · cases e
              · split at e
                · cases e
                · rw [bh_W e]; exact h
            · split at e
              · split at e
                · cases e
                · rw [bh_W e]; exact inv_tri h
              · split at e
                · split at e
                  · cases e
                  · rename_i q
                    rw [bh_W e]
                    have mp : isMap (rdR c 1) := Decidable.byContradiction fun z => q (Or.inl z)
                    have mp' : 8 ≤ (rdR c 1).1 ∧ (rdR c 1).1 ≤ 15 := mp
                    have z2 := Decidable.byContradiction fun z => q (Or.inr z)
                    have em : mapT (rdR c 1) = (((rdR c 1).1 - 8 : Nat) : Int) := by
                      show ((rdR c 1).1 : Int) - 8 = _
                      omega
                    rw [em]
                    exact inv_rec h (by omega) z2.2
                · split at e
                  · split at e
                    · cases e
                    · rename_i q
                      rw [bh_W e]
                      have z1 := Decidable.byContradiction fun z => q (Or.inl z)
                      have zh := Decidable.byContradiction fun z => q (Or.inr z)
                      exact inv_giv h (by omega) (of_decide_eq_true zh)
                  · cases e
theorem wrB_i {c c' : TC WR} (hI : invW (cW c)) (h : wrB RB c o b v = some c') : invW (cW c') := by
  unfold wrB at h
  split at h
  · split at h
    · cases h; exact hI
    · cases h
  · split at h
    · split at h
      · cases h; exact inw_B hI
      · cases h
    · split at h
      · split at h
        · cases h; exact inw_B hI
        · cases h
      · split at h
        · split at h
          · cases h; exact inw_B hI
          · cases h
        · cases h
theorem wrL_i : ∀ (l : List B64) {b : Nat} {c c' : TC WR}, invW (cW c) → wrL RB c o b l = some c' → invW (cW c') := by
  intro l
  induction l with
  | nil => intro b c c' hI h; cases h; exact hI
  | cons v l ih =>
    intro b c c' hI h
    unfold wrL at h
    split at h
    · rename_i c1 h1
      exact ih (wrB_i hI h1) h
    · cases h
theorem stoT_i (hI : invW (cW c)) (h : stoT RB RH c w = some c') : invW (cW c') := by
  unfold stoT at h
  dsimp only at h
  generalize (if fL w = 3 then rdR c (sRr w) else ((0, BitVec.ofInt 64 (fI w)) : SV)) = v at h
  split at h
  · split at h
    · cases h; exact inv_80 hI (Or.inl rfl)
    · cases h
  · split at h
    · exact wrL_i _ hI h
    · split at h
      · cases h; exact hI
      · cases h
theorem swT_i (hI : invW (cW c)) (h : swT RB c w = some c') : invW (cW c') := by
  unfold swT at h
  split at h
  · cases h
  · split at h
    · cases h
    · split at h
      · split at h
        · cases h
        · split at h
          · rename_i c1 h1
            cases h
            show invW (cW c1)
            split at h1
            · exact wrL_i _ hI h1
            · cases h1; exact hI
          · cases h
      · split at h
        · rename_i c1 h1
          cases h
          have z := wrL_i _ hI h1
          split
          · exact z
          · exact z
        · cases h
theorem stp_i (hI : invW (cW c)) (e : stpT RB RH E c w w2 = some (k, c')) : invW (cW c') := by
  unfold stpT at e
  split at e
  · split at e
    · cases e; exact hI
    · cases e; exact hI
  · split at e
    · split at e
      · cases e; exact hI
      · cases e
    · split at e
      · split at e
        · cases e; exact hI
        · split at e
          · unfold exT at e
            split at e
            · cases e
            · split at e
              · cases e; exact hI
              · cases e; exact hI
          · split at e
            · split at e
              · split at e
                · cases e
                · cases e; exact hI
              · exact hp_i hI (hpG_T e).1
            · split at e
              · cases e; exact hI
              · cases e
      · split at e
        · split at e
          · cases e; exact hI
          · cases e
        · split at e
          · split at e
            · rename_i c1 h1
              cases e
              show invW (cW c1)
              exact swT_i hI h1
            · cases e
          · split at e
            · rename_i c1 h1
              cases e
              show invW (cW c1)
              exact stoT_i hI h1
            · cases e
/-! what a run never changes; its steps -/
abbrev cst (k s : Nat) : Prop := k = 85 ∨ (95 ≤ k ∧ k ≤ 99) ∨ k = 106 ∨ (k = 80 ∧ (s = 107 ∨ s = 110 ∨ s = 122))
def kpc (w v : WR) : Prop := v.2.2 = w.2.2 ∧ ∀ k s, cst k s → wg v k s = wg w k s
theorem kpc_r (w : WR) : kpc w w := ⟨rfl, fun _ _ _ => rfl⟩
theorem kpc_t {a b c : WR} (h1 : kpc a b) (h2 : kpc b c) : kpc a c := ⟨h2.1.trans h1.1, fun k s z => (h2.2 k s z).trans (h1.2 k s z)⟩
theorem kpc_s (h : ¬ cst k s) : kpc W (wset W k s y) := ⟨rfl, fun k' s' z => by
  rw [wg_wset, if_neg (fun q => h (by rw [← q.1, ← q.2]; exact z))]⟩
theorem kpc_l (h : ∀ s, ¬ cst k s) : kpc W (wsL W k s l) := ⟨rfl, fun k' s' z => wg_wsL_o (fun q => h s' (by rw [← q]; exact z))⟩
theorem kpc_m {b d : Nat} (h : ∀ s, ¬ cst k s) : kpc W (wmv W k s b d) := ⟨rfl, fun k' s' z => wg_wmv_o (fun q => h s' (by rw [← q]; exact z))⟩
theorem kpc_tra : ∀ (l : List Int) (W : WR), kpc W (traR W l) := by
  intro l
  induction l with
  | nil => intro W; exact kpc_r W
  | cons b l ih =>
    intro W
    refine kpc_t ?_ (ih _)
    split
    · exact kpc_t (kpc_s (by omega)) (kpc_s (by omega))
    · exact kpc_r W
theorem kpc_put : kpc W (putR W m e l) := kpc_l (fun s => by omega)
theorem kpc_ch {z : B64} : kpc W (W.1, z, W.2.2) := ⟨rfl, fun _ _ _ => rfl⟩
theorem kpc_all : keepR RB RH kpc := by
  refine ⟨kpc_r, fun a b c h1 h2 => kpc_t h1 h2, fun w o b v => ?_, fun w x => kpc_s (by omega), fun w m k v f => ?_, fun w m k => ?_, fun w l => kpc_tra _ _, fun w => kpc_ch (z := chaX w.2.1), fun w x => ?_, fun w m n => ?_, fun w i b => ?_⟩
  · show kpc w (if o ≤ 271 then wset w 100 _ (kpW v) else if o = 280 then wset w 144 _ (kpW v) else wset w 149 _ (kpW v))
    split
    · exact kpc_s (by omega)
    · split
      · exact kpc_s (by omega)
      · exact kpc_s (by omega)
  · show kpc w (updR w m.toNat (k.map kpW) (v.map kpW) f.toInt).1
    unfold updR
    split
    · exact kpc_r w
    · split
      · split
        · exact kpc_r w
        · exact kpc_put
      · split
        · exact kpc_r w
        · split
          · exact kpc_r w
          · split
            · exact kpc_r w
            · split
              · exact kpc_r w
              · exact kpc_t (kpc_t (kpc_t (kpc_t (kpc_s (by omega)) (kpc_l (fun s => by omega))) (kpc_s (by omega))) (kpc_s (by omega))) kpc_put
  · show kpc w (remR w m.toNat (k.map kpW) 1).1
    unfold remR
    split
    · exact kpc_r w
    · split
      · exact kpc_r w
      · exact kpc_t (kpc_t (kpc_t (kpc_t (kpc_s (by omega)) (kpc_s (by omega))) (kpc_s (by omega))) (kpc_m (fun s => by omega))) (kpc_m (fun s => by omega))
  · show kpc w (triR w x).1
    unfold triR
    dsimp only
    split
    · exact kpc_r w
    · refine kpc_t (b := (fun (k s : Nat) => if k = 144 ∧ (s : Int) < wg w 80 105 - lI x then (if 0 ≤ (s : Int) + lI x then w.1 144 ((s : Int) + lI x).toNat else 0) else w.1 k s, w.2)) ⟨rfl, fun k s z => ?_⟩ (kpc_s (by omega))
      exact if_neg fun q => by omega
  · show kpc w (recR w m n).1
    unfold recR
    split
    · exact kpc_r w
    · split
      · exact kpc_r w
      · exact kpc_t (kpc_t (kpc_t (kpc_s (by omega)) (kpc_s (by omega))) (kpc_s (by omega))) (kpc_l (fun s => by omega))
  · show kpc w (givR w i b)
    unfold givR
    dsimp only
    split
    · exact kpc_s (by omega)
    · exact kpc_t (kpc_t (kpc_t (kpc_s (by omega)) (kpc_s (by omega))) (kpc_l (fun s => by omega))) (kpc_s (by omega))
/-! where it goes on -/
def gdT (G : Int → Prop) (c : TC WR) : Prop := 1 ≤ cN c ∧ G (cP c) ∧ ∀ f, 1 ≤ f → f < cN c → G (cB c f)
theorem hp_G (h1 : 1 ≤ cN c) (h : ∀ f, 1 ≤ f → f < cN c → G (cB c f)) (hn : G nx) (e : hpT RB RH E c hh nx = some (0, c')) : gdT G c' := by
  have bb : ∀ {d : TC WR} {S W u}, cN d = cN c → cB d = cB c → bhT d S W u nx = some (0, c') → gdT G c' := fun {d S W u} q1 q2 e => by
    obtain ⟨_, ec⟩ := Prod.mk.inj (Option.some.inj e)
    rw [← ec]
    refine ⟨?_, hn, fun f f1 f2 => ?_⟩
    · show 1 ≤ cN d
      rw [q1]
      exact h1
    · have f2 : f < cN d := f2
      show G (cB d f)
      rw [q2]
      exact h f f1 (by omega)
  unfold hpT at e
  by_cases q1 : hh = 1 ∨ hh = 2 ∨ hh = 3
  · rw [if_pos q1] at e
    split at e
    · cases e
    · split at e
      · cases e
      · split at e
        · split at e
          · exact bb rfl rfl e
          · exact bb rfl rfl e
        · split at e
          · exact bb rfl rfl e
          · split at e
            · cases e
            · split at e
              · cases e
              · exact bb rfl rfl e
  · rw [if_neg q1] at e
    split at e
    · exact bb rfl rfl e
    · split at e
      · split at e
        · cases e
        · split at e
          · cases e
          · exact bb rfl rfl e
      · split at e
        · exact bb rfl rfl e
        · split at e
          · split at e
            · cases e
            · split at e
              · cases e
              · exact bb rfl rfl e
          · split at e
            · split at e
              · cases e
              · split at e
                · cases e
                · exact bb rfl rfl e
            · split at e
              · split at e
                · cases e
                · exact bb rfl rfl e
              · split at e
                · split at e
                  · cases e
                  · exact bb rfl rfl e
                · split at e
                  · split at e
                    · cases e
                    · exact bb (d := kilT c (rdR c 1).1) rfl rfl e
                  · cases e
/-- only words and numbers of words -/
theorem wrL_B : ∀ (l : List B64) {b : Nat} {c c' : TC WR}, wrL RB c o b l = some c' → cN c' = cN c ∧ cB c' = cB c := by
  intro l
  induction l with
  | nil => intro b c c' h; cases h; exact ⟨rfl, rfl⟩
  | cons v l ih =>
    intro b c c' h
    unfold wrL at h
    split at h
    · rename_i c1 h1
      have q : cN c1 = cN c ∧ cB c1 = cB c := by
        unfold wrB at h1
        split at h1
        · split at h1
          · cases h1; exact ⟨rfl, rfl⟩
          · cases h1
        · split at h1
          · split at h1
            · cases h1; exact ⟨rfl, rfl⟩
            · cases h1
          · split at h1
            · split at h1
              · cases h1; exact ⟨rfl, rfl⟩
              · cases h1
            · split at h1
              · split at h1
                · cases h1; exact ⟨rfl, rfl⟩
                · cases h1
              · cases h1
      have z := ih h
      exact ⟨z.1.trans q.1, z.2.trans q.2⟩
    · cases h
theorem stoT_B (h : stoT RB RH c w = some c') : cN c' = cN c ∧ cB c' = cB c := by
  unfold stoT at h
  dsimp only at h
  generalize (if fL w = 3 then rdR c (sRr w) else ((0, BitVec.ofInt 64 (fI w)) : SV)) = v at h
  split at h
  · split at h
    · cases h; exact ⟨rfl, rfl⟩
    · cases h
  · split at h
    · exact wrL_B _ h
    · split at h
      · cases h; exact ⟨rfl, rfl⟩
      · cases h
theorem swT_B (h : swT RB c w = some c') : cN c' = cN c ∧ cB c' = cB c := by
  unfold swT at h
  split at h
  · cases h
  · split at h
    · cases h
    · split at h
      · split at h
        · cases h
        · split at h
          · rename_i c1 h1
            cases h
            show cN c1 = cN c ∧ cB c1 = cB c
            split at h1
            · exact wrL_B _ h1
            · cases h1; exact ⟨rfl, rfl⟩
          · cases h
      · split at h
        · rename_i c1 h1
          cases h
          have z := wrL_B _ h1
          split
          · exact z
          · exact z
        · cases h
theorem stp_G (hP : okP G p) (h : gdT G c) (e : stpT RB RH E c (p (cP c)) (p (cP c + 1)) = some (0, c')) : gdT G c' := by
  obtain ⟨o1, o2, o3, o4⟩ := hP _ h.2.1
  have same : ∀ {d : TC WR} {i : Int}, cN d = cN c → cB d = cB c → G i → gdT G (goT d i) := fun {d i} h1 h2 h3 => by
    refine ⟨by show 1 ≤ cN d; rw [h1]; exact h.1, h3, fun f f1 f2 => ?_⟩
    have f2 : f < cN d := f2
    show G (cB d f)
    rw [h2]
    exact h.2.2 f f1 (by omega)
  unfold stpT at e
  split at e
  · rename_i l0
    split at e
    · cases e; exact same rfl rfl (o2 l0)
    · cases e; exact same rfl rfl (o2 l0)
  · rename_i l0
    split at e
    · rename_i l47
      split at e
      · cases e
        have : fL (p (cP c)) = fOp (p (cP c)) % 8 := rfl
        exact same rfl rfl (o3 l0 (by omega) (by omega) (by omega))
      · cases e
    · split at e
      · rename_i l56
        split at e
        · rename_i j
          cases e
          exact same rfl rfl (o4 l56 (by omega) (by omega))
        · rename_i j
          split at e
          · unfold exT at e
            split at e
            · cases e
            · split at e
              · cases e
              · rename_i n1
                cases e
                have h1 := h.1
                refine ⟨by show 1 ≤ cN c - 1; omega, h.2.2 (cN c - 1) (by omega) (by omega), fun f f1 f2 => ?_⟩
                have f2 : f < cN c - 1 := f2
                exact h.2.2 f f1 (by omega)
          · rename_i j9
            split at e
            · rename_i j3
              split at e
              · rename_i s1
                split at e
                · cases e
                · cases e
                  refine ⟨Nat.succ_pos _, o4 l56 j9 (fun _ => s1), fun f f1 f2 => ?_⟩
                  have f2 : f < cN c + 1 := f2
                  show G (if f = cN c then cP c + 1 else cB c f)
                  by_cases q : f = cN c
                  · rw [if_pos q]
                    exact o3 l0 j9 (by omega) (by omega)
                  · rw [if_neg q]
                    exact h.2.2 f f1 (by omega)
              · exact hp_G h.1 h.2.2 (o3 l0 j9 (by omega) (by omega)) (hpG_T e).1
            · rename_i j3
              split at e
              · rename_i b _
                cases e
                cases b with
                | true => exact same rfl rfl (o4 l56 j9 (fun z => absurd z j3))
                | false => exact same rfl rfl (o3 l0 j9 (by omega) (by omega))
              · cases e
      · rename_i l56
        have : fL (p (cP c)) = fOp (p (cP c)) % 8 := rfl
        have go1 : G (cP c + 1) := o3 l0 (by omega) (by omega) (by omega)
        split at e
        · split at e
          · cases e; exact same rfl rfl go1
          · cases e
        · split at e
          · split at e
            · rename_i c1 h1
              cases e
              obtain ⟨z1, z2⟩ := swT_B h1
              exact same z1 z2 go1
            · cases e
          · split at e
            · rename_i c1 h1
              cases e
              obtain ⟨z1, z2⟩ := stoT_B h1
              exact same z1 z2 go1
            · cases e
end RSTP
