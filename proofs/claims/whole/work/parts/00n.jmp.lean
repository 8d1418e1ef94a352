/-! ===== jumps, functions: what the judge says is so ===== -/
section JM
variable {W : Type} {B : WB W} {E : EV} {th : Int → Nat} {tp : Int → B64} {S : ST} {c : TC W} {t : Int}
/-- all VALUES change, perhaps what is held and the rest of the machine too -/
theorem all_g {c' : TC W} {th' : Int → Nat} {tp' : Int → B64} {hd' : List Int} {g : VL → VL} (h : gS B E th tp S c) (hN : cN c' = cN c) (hR : cR c' = cR c) (hS : cS c' = cS c) (hBk : cB c' = cB c)
    (hg : ∀ k, k < 26 * sF S → ((vk (sV S k) = 0 → g (sV S k) = sV S k) ∧ (¬ vk (sV S k) = 0 → vk (g (sV S k)) = 0 → vr (g (sV S k)) = 0)) ∧ ∀ s, gV E (B.1 (cW c)) (B.2.2.2.2 (cW c)) (sH S) th tp (sV S k) s → gV E (B.1 (cW c')) (B.2.2.2.2 (cW c')) hd' th' tp' (g (sV S k)) s)
    (h5 : ∀ i : Nat, i < 64 → (B.2.2.2.1 (cW c') i = true ↔ ∃ h ∈ hd', th' h = 300 + i)) (h6 : ∀ h h' : Int, h ∈ hd' → h' ∈ hd' → th' h = th' h' → ¬ th' h = 0 → h = h') (h8 : tp' 0 = 0#64) :
    gS B E th' tp' (sF S, (fun k => if k < 26 * sF S then g (sV S k) else sV S k), sB S, hd') c' := by
  obtain ⟨h1, h2, h3, h4, -, -, h7, -⟩ := h
  refine ⟨hN.trans h1, fun f r hf hr => ?_, fun f q hf hq => ?_, ?_, h5, h6, ?_, h8⟩
  · rw [hR]
    show gV _ _ _ _ _ _ (if 26 * f + r < 26 * sF S then _ else _) _
    have hf : f < sF S := hf
    rw [if_pos (by omega)]
    exact (hg _ (by omega)).2 _ (h2 f r hf hr)
  · rw [hS]
    show gP _ _ _ _ _ _ (if 26 * f + 10 + q < 26 * sF S then _ else _) _
    have hf : f < sF S := hf
    rw [if_pos (by omega)]
    obtain ⟨⟨a1, a2⟩, a3⟩ := hg (26 * f + 10 + q) (by omega)
    have old := h3 f q hf hq
    by_cases k : vk (sV S (26 * f + 10 + q)) = 0
    · rw [a1 k]
      exact ⟨old.1, fun e => absurd k e⟩
    · obtain ⟨s, s1, s2⟩ := old.2 k
      refine ⟨fun k0 i _ hb => ?_, fun _ => ⟨s, a3 s s1, s2⟩⟩
      rw [a2 k k0] at hb
      have hb : (0 : Int).toNat.testBit i = true := hb
      simp at hb
  · rw [hBk]; exact h4
  · rw [hS]; exact h7
theorem all_ok {t' : Int} {hd' : List Int} {g : VL → VL} (ho : okS E t S) (ht : t ≤ t') (hg : ∀ k, k < 26 * sF S → okV E (k / 26) t' (g (sV S k))) (h9 : ∀ k k', k < 26 * sF S → k' < 26 * sF S → vk (g (sV S k)) = 9 → vk (g (sV S k')) = 10 → ¬ vt (g (sV S k)) = vt (g (sV S k'))) (hh : (∀ x, x ∈ hd' → 1 ≤ x ∧ x ≤ t') ∧ hd'.Nodup ∧ hd'.length ≤ 64) : okS E t' (sF S, (fun k => if k < 26 * sF S then g (sV S k) else sV S k), sB S, hd') := by
  obtain ⟨o1, -, -, -, -, -, o7⟩ := ho
  refine ⟨o1, fun k hk => ?_, fun k k' hk hk' a b => ?_, hh.1, hh.2.1, hh.2.2, by omega⟩
  · have hk : k < 26 * sF S := hk
    show okV E (k / 26) t' (if k < 26 * sF S then _ else _)
    rw [if_pos hk]
    exact hg k hk
  · have hk : k < 26 * sF S := hk
    have hk' : k' < 26 * sF S := hk'
    have a : vk (if k < 26 * sF S then g (sV S k) else sV S k) = 9 := a
    have b : vk (if k' < 26 * sF S then g (sV S k') else sV S k') = 10 := b
    show ¬ vt (if k < 26 * sF S then g (sV S k) else sV S k) = vt (if k' < 26 * sF S then g (sV S k') else sV S k')
    rw [if_pos hk] at a ⊢
    rw [if_pos hk'] at b ⊢
    exact h9 k k' hk hk' a b
theorem hd_ok (ho : okS E t S) : (∀ x, x ∈ sH S → 1 ≤ x ∧ x ≤ t) ∧ (sH S).Nodup ∧ (sH S).length ≤ 64 := ⟨ho.2.2.2.1, ho.2.2.2.2.1, ho.2.2.2.2.2.1⟩
theorem gV_hd {v : VL} {s : SV} {ps : Nat} {rz : Nat → Int} {hd hd' : List Int} (h : vk v = 9 ∨ vk v = 10 ∧ ¬ th (vt v) = 0 → vt v ∈ hd → vt v ∈ hd') (gv : gV E ps rz hd th tp v s) : gV E ps rz hd' th tp v s := by
  obtain ⟨h1, h2, h3, h4, h5, h6, h7, h8, h9, h10⟩ := gv
  refine ⟨h1, h2, h3, h4, h5, h6, h7, h8, fun k => ?_, fun k => ?_⟩
  · obtain ⟨i, p, ⟨i1, i2, i3⟩, r⟩ := h9 k
    exact ⟨i, p, ⟨i1, i2, h (Or.inl k) i3⟩, r⟩
  · rcases h10 k with e | ⟨i, ⟨i1, i2, i3⟩, r⟩
    · exact Or.inl e
    · exact Or.inr ⟨i, ⟨i1, i2, h (Or.inr ⟨k, by omega⟩) i3⟩, r⟩
/-- where what is perhaps a place is 0 -/
theorem becZ_g (h : gS B E th tp S c) {T k : Int} (hT : th T = 0) : gS B E th tp (becZ S T k) c := by
  have zer : ∀ (hd' : List Int), (∀ x, x ∈ sH S → ¬ x = T → x ∈ hd') → ∀ j, j < 26 * sF S → ((vk (sV S j) = 0 → zerV T (sV S j) = sV S j) ∧ (¬ vk (sV S j) = 0 → vk (zerV T (sV S j)) = 0 → vr (zerV T (sV S j)) = 0)) ∧ ∀ s, gV E (B.1 (cW c)) (B.2.2.2.2 (cW c)) (sH S) th tp (sV S j) s → gV E (B.1 (cW c)) (B.2.2.2.2 (cW c)) hd' th tp (zerV T (sV S j)) s := by
    intro hd' hsub j _
    unfold zerV
    by_cases e : isMb (sV S j) ∧ vt (sV S j) = T
    · simp only [if_pos e]
      refine ⟨⟨fun k0 => by exfalso; unfold isMb at e; omega, fun _ k0 => by have k2 : vk (numV (cstN 0#64)) = 1 := rfl; exfalso; omega⟩, fun s gv => ?_⟩
      have z : s = (0, 0#64) := by
        rcases e.1 with k6 | k10
        · rcases gV_6 gv k6 with q | ⟨i, _, q, _⟩
          · exact q.2
          · rw [e.2, hT] at q; exfalso; omega
        · rcases gV_10 gv k10 with q | ⟨i, q, _⟩
          · exact q.2
          · rw [e.2, hT] at q; exfalso; omega
      rw [z]
      exact gV_num (inN_cst _)
    · simp only [if_neg e]
      refine ⟨⟨fun _ => trivial, fun a b => absurd b a⟩, fun s gv => gV_hd (fun q1 q2 => hsub _ q2 fun q3 => ?_) gv⟩
      rcases q1 with k9 | ⟨k10, q⟩
      · obtain ⟨i, p, q, _⟩ := gV_9 gv k9
        rw [q3, hT] at q
        exfalso; omega
      · rw [q3] at q
        exact q hT
  unfold becZ
  split
  · have := all_g (hd' := (sH S).filter fun h => decide (¬ h = T)) (th' := th) (tp' := tp) h rfl rfl rfl rfl (zer _ fun x hx hn => List.mem_filter.mpr ⟨hx, by simpa using hn⟩) (fun i hi => (h.2.2.2.2.1 i hi).trans ⟨?_, ?_⟩) (fun a b ha hb => h.2.2.2.2.2.1 a b (List.mem_filter.mp ha).1 (List.mem_filter.mp hb).1) h.2.2.2.2.2.2.2
    · exact this
    · rintro ⟨x, x1, x2⟩
      exact ⟨x, List.mem_filter.mpr ⟨x1, by simp; intro e; rw [e, hT] at x2; omega⟩, x2⟩
    · rintro ⟨x, x1, x2⟩
      exact ⟨x, (List.mem_filter.mp x1).1, x2⟩
  · exact all_g (hd' := sH S) (th' := th) (tp' := tp) h rfl rfl rfl rfl (zer _ fun x hx _ => hx) h.2.2.2.2.1 h.2.2.2.2.2.1 h.2.2.2.2.2.2.2
theorem zerV_k (T : Int) (v : VL) : vk (zerV T v) = vk v ∧ vt (zerV T v) = vt v ∨ vk (zerV T v) = 1 := by
  unfold zerV
  split
  · exact Or.inr rfl
  · exact Or.inl ⟨rfl, rfl⟩
theorem becZ_ok (ho : okS E t S) {T k : Int} : okS E t (becZ S T k) := by
  have a1 : ∀ j, j < 26 * sF S → okV E (j / 26) t (zerV T (sV S j)) := fun j hj => by
    unfold zerV
    split
    · exact okV_num
    · exact ho.2.1 j hj
  have a2 : ∀ j j', j < 26 * sF S → j' < 26 * sF S → vk (zerV T (sV S j)) = 9 → vk (zerV T (sV S j')) = 10 → ¬ vt (zerV T (sV S j)) = vt (zerV T (sV S j')) := fun j j' hj hj' p q => by
    have e1 := zerV_k T (sV S j)
    have e2 := zerV_k T (sV S j')
    have e3 : vk (zerV T (sV S j)) = vk (sV S j) ∧ vt (zerV T (sV S j)) = vt (sV S j) := by omega
    have e4 : vk (zerV T (sV S j')) = vk (sV S j') ∧ vt (zerV T (sV S j')) = vt (sV S j') := by omega
    rw [e3.2, e4.2]
    exact ho.2.2.1 j j' hj hj' (by omega) (by omega)
  unfold becZ
  obtain ⟨h1, h2, h3⟩ := hd_ok ho
  split
  · exact all_ok (hd' := (sH S).filter fun h => decide (¬ h = T)) ho (Int.le_refl _) a1 a2 ⟨fun x hx => h1 x (List.mem_filter.mp hx).1, h2.filter _, Nat.le_trans (List.length_filter_le _ _) h3⟩
  · exact all_ok (hd' := sH S) ho (Int.le_refl _) a1 a2 ⟨h1, h2, h3⟩
/-- where it is a place -/
theorem becP_g (h : gS B E th tp S c) {T : Int} (hT : ¬ th T = 0) : gS B E th tp (allV S (plcV T)) c := by
  refine all_g (hd' := sH S) (th' := th) (tp' := tp) h rfl rfl rfl rfl (fun j hj => ?_) h.2.2.2.2.1 h.2.2.2.2.2.1 h.2.2.2.2.2.2.2
  unfold plcV
  by_cases e : isMb (sV S j) ∧ vt (sV S j) = T
  · simp only [if_pos e]
    rcases e.1 with k6 | k10
    · rw [if_pos k6, if_pos k6]
      refine ⟨⟨fun k0 => by exfalso; omega, fun _ k0 => by exfalso; have k0 : (5 : Int) = 0 := k0; omega⟩, fun s gv => mk_5 rfl ?_⟩
      rcases gV_6 gv k6 with q | ⟨i, i1, q, q2⟩
      · rw [e.2] at q; exact absurd q.1 hT
      · exact ⟨i, 0#64, i1, by rw [q2]; rfl, inN_cst _⟩
    · rw [if_neg (by omega), if_neg (by omega)]
      refine ⟨⟨fun k0 => by exfalso; omega, fun _ k0 => by exfalso; have k0 : (9 : Int) = 0 := k0; omega⟩, fun s gv => mk_9 rfl ?_⟩
      rcases gV_10 gv k10 with q | ⟨i, ⟨i1, i2, i3⟩, q2, q3⟩
      · rw [e.2] at q; exact absurd q.1 hT
      · rw [e.2] at i2 i3
        exact ⟨i, 0#64, ⟨i1, i2, i3⟩, by rw [q2]; rfl, inN_cst _, q3⟩
  · simp only [if_neg e]
    exact ⟨⟨fun _ => trivial, fun a b => absurd b a⟩, fun s gv => gv⟩
theorem becP_ok (ho : okS E t S) {T : Int} : okS E t (allV S (plcV T)) := by
  refine all_ok (hd' := sH S) ho (Int.le_refl _) (fun j hj => ?_) (fun j j' hj hj' p q => ?_) (hd_ok ho)
  · have o := ho.2.1 j hj
    unfold plcV
    by_cases e : isMb (sV S j) ∧ vt (sV S j) = T
    · rw [if_pos e]
      rcases e.1 with k6 | k10
      · rw [if_pos k6, if_pos k6]
        have k1 : vk (mkV 5 (vw (sV S j)) 0) = 5 := rfl
        have x := o.2.2.2.2.1 (Or.inr k6)
        refine ⟨by omega, fun _ => by show (-4096 : Int) ≤ 0 ∧ (0 : Int) ≤ 4096; omega, ?_, ?_, fun _ => x, fun _ => by show (0#64).toNat ≤ 65535; decide, ?_, ?_, ?_, ?_⟩
        all_goals (intro e; exfalso; omega)
      · rw [if_neg (by omega), if_neg (by omega)]
        have k1 : vk (mkV 9 (vw (sV S j)) T) = 9 := rfl
        have x := o.2.2.2.2.2.2.1 (Or.inr (Or.inr k10))
        have y := o.2.2.2.2.2.2.2.2.1 (Or.inr k10)
        rw [e.2] at x
        refine ⟨by omega, fun _ => by show (-4096 : Int) ≤ 0 ∧ (0 : Int) ≤ 4096; omega, ?_, ?_, ?_, fun _ => by show (0#64).toNat ≤ 65535; decide, fun _ => x, ?_, fun _ => y, ?_⟩
        all_goals (intro e; exfalso; omega)
    · rw [if_neg e]
      exact o
  · have old := ho.2.2.1 j j' hj hj'
    unfold plcV at p q ⊢
    by_cases e : isMb (sV S j) ∧ vt (sV S j) = T <;> by_cases e' : isMb (sV S j') ∧ vt (sV S j') = T
    · rw [if_pos e'] at q
      exfalso
      have q : (if vk (sV S j') = 6 then (5 : Int) else 9) = 10 := q
      split at q <;> omega
    · rw [if_pos e] at p ⊢
      rw [if_neg e'] at q ⊢
      have p : (if vk (sV S j) = 6 then (5 : Int) else 9) = 9 := p
      show ¬ (if vk (sV S j) = 6 then (0 : Int) else T) = vt (sV S j')
      split at p
      · omega
      · rename_i n6
        rw [if_neg n6]
        intro e2
        exact e' ⟨Or.inr q, e2.symm⟩
    · rw [if_pos e'] at q
      exfalso
      have q : (if vk (sV S j') = 6 then (5 : Int) else 9) = 10 := q
      split at q <;> omega
    · rw [if_neg e] at p ⊢
      rw [if_neg e'] at q ⊢
      exact old p q
/-- a reach that is there -/
theorem rch_g (h : gS B E th tp S c) {T n : Int} (hn : ((tp T).toNat : Int) + n ≤ B.1 (cW c)) : gS B E th tp (allV S (rchV T n)) c := by
  refine all_g (hd' := sH S) (th' := th) (tp' := tp) h rfl rfl rfl rfl (fun j hj => ?_) h.2.2.2.2.1 h.2.2.2.2.2.1 h.2.2.2.2.2.2.2
  unfold rchV
  by_cases e : vk (sV S j) = 7 ∧ vt (sV S j) = T ∧ vr (sV S j) < n
  · simp only [if_pos e]
    refine ⟨⟨fun k0 => by exfalso; omega, fun a k0 => absurd k0 a⟩, fun s gv => mk_7 e.1 ?_⟩
    obtain ⟨g1, g2, g3⟩ := gV_7 gv e.1
    refine ⟨g1, g2, Or.inr ?_⟩
    show ((tp (vt (sV S j))).toNat : Int) + n ≤ _
    rw [e.2.1]
    exact hn
  · simp only [if_neg e]
    exact ⟨⟨fun _ => trivial, fun a b => absurd b a⟩, fun s gv => gv⟩
theorem rch_ok (ho : okS E t S) {T n : Int} (hn : n ≤ 4097) : okS E t (allV S (rchV T n)) := by
  have key : ∀ v, vk (rchV T n v) = vk v ∧ vt (rchV T n v) = vt v := fun v => by
    unfold rchV
    split <;> exact ⟨rfl, rfl⟩
  refine all_ok (hd' := sH S) ho (Int.le_refl _) (fun j hj => ?_) (fun j j' hj hj' p q => ?_) (hd_ok ho)
  · have o := ho.2.1 j hj
    unfold rchV
    split
    · obtain ⟨o1, o2, o3, o4, o5, o6, o7, o8, o9, o10⟩ := o
      exact ⟨o1, o2, o3, o4, o5, o6, o7, o8, o9, fun _ => hn⟩
    · exact o
  · rw [(key _).1] at p q
    rw [(key _).2, (key _).2]
    exact ho.2.2.1 j j' hj hj' p q
/-- a register whose number is known better -/
theorem wV_self (h : gS B E th tp S c) (ho : okS E t S) {r : Nat} (hr : r < 10) {v : VL} (hv : gV E (B.1 (cW c)) (B.2.2.2.2 (cW c)) (sH S) th tp v (rdR c r)) : gS B E th tp (wV S r v) c := by
  have q := wV_g h ho hr hv
  have e : upR (cR c) (cN c - 1) r (rdR c r) = cR c := by
    funext i j
    have er : rdR c r = cR c (cN c - 1) r := if_neg (by omega)
    rw [er]
    unfold upR
    split
    · rename_i k
      rw [k.1, k.2]
    · rfl
  unfold wrR at q
  rw [e] at q
  exact q
/-- a way that the judge goes -/
def wayG (B : WB W) (E : EV) (w : WY) (c : TC W) : Prop := ∃ n S, w = some (n, S) ∧ cP c = n ∧ ∃ th tp, gS B E th tp S c
def wayO (E : EV) (t : Int) (w : WY) : Prop := ∀ n S, w = some (n, S) → okS E t S
/-- what the judge says of a step: it isn't stuck, and the judge goes the way on which it goes on -/
def resG (B : WB W) (E : EV) (r : JR) (x : TR W) : Prop := ∃ k c', x = some (k, c') ∧ ((k = 0 ∧ (wayG B E r.2.1 c' ∨ wayG B E r.2.2.1 c')) ∨ ((k = 1 ∨ k = 2) ∧ (k = 1 → (r.2.1 = none ∧ r.2.2.1 = none) ∧ (rdR c' 0).1 = 0 ∧ cN c' = 1) ∧ ∀ i, i < 64 → B.2.2.2.1 (cW c') i = false))
abbrev resO (E : EV) (t : Int) (r : JR) : Prop := t ≤ r.2.2.2 ∧ wayO E r.2.2.2 r.2.1 ∧ wayO E r.2.2.2 r.2.2.1
theorem wayG_1 {n : Int} {S : ST} {c : TC W} (h : cP c = n) (g : gS B E th tp S c) : wayG B E (some (n, S)) c := ⟨n, S, rfl, h, th, tp, g⟩
theorem wayO_1 {n : Int} (h : okS E t S) : wayO E t (some (n, S)) := fun _ _ e => by cases e; exact h
theorem wayO_0 : wayO E t none := fun _ _ e => by cases e
theorem cmpB_w {c : Int} (hc : isCmp c) (hs : ¬ isSgn c) (a b : B64) : cmpB c false a b = cmpB c true a b := by
  rcases hc with rfl | rfl | rfl | rfl | rfl | rfl | rfl | rfl | rfl | rfl | rfl
  · rw [cmpB_16, cmpB_16]
  · rw [cmpB_32, cmpB_32]
  · rw [cmpB_48, cmpB_48]
  · rw [cmpB_64, cmpB_64]
  · rw [cmpB_80, cmpB_80]
  · exact absurd (by decide) hs
  · exact absurd (by decide) hs
  · rw [cmpB_160, cmpB_160]
  · rw [cmpB_176, cmpB_176]
  · exact absurd (by decide) hs
  · exact absurd (by decide) hs
theorem nrw_g (h : gS B E th tp S c) (ho : okS E t S) {w : B64} (hd : dR w < 10) (hs : rgt w → sRr w < 10 ∧ ¬ dR w = sRr w) {cc : Int} {is : Bool} {x y : N6} (hp : inP (narN cc is x y) (rdR c (dR w)).2 (sdT c w).2) (z : (rdR c (dR w)).1 = 0) (z2 : rgt w → (rdR c (sRr w)).1 = 0) : gS B E th tp (nrwS S w cc is x y) c ∧ okS E t (nrwS S w cc is x y) := by
  have g1 : ∀ n : N6, inN n (rdR c (dR w)).2 → gV E (B.1 (cW c)) (B.2.2.2.2 (cW c)) (sH S) th tp (numV (tdN n)) (rdR c (dR w)) := fun n hn => mk_1 rfl ⟨z, inN_td hn⟩
  have nr : ∀ n : N6, vk (numV n) = 9 ∨ vk (numV n) = 10 → ∃ k, k < 26 * sF S ∧ vk (sV S k) = vk (numV n) ∧ vt (sV S k) = vt (numV n) := fun n q => by have k1 : vk (numV n) = 1 := rfl; exfalso; omega
  have a1 := wV_self h ho hd (g1 _ hp.1)
  have a2 := wV_ok ho (Int.le_refl _) hd (okV_num (E := E) (n := tdN (narN cc is x y).1)) (nr _)
  unfold nrwS
  by_cases r : rgt w
  · rw [if_pos r]
    have s10 := (hs r).1
    have g2 : gV E (B.1 (cW c)) (B.2.2.2.2 (cW c)) (sH S) th tp (numV (tdN (narN cc is x y).2)) (rdR c (sRr w)) := by
      refine mk_1 rfl ⟨z2 r, ?_⟩
      have := hp.2
      unfold sdT at this
      rw [if_pos r] at this
      exact inN_td this
    refine ⟨wV_self a1 a2 s10 g2, wV_ok a2 (Int.le_refl _) s10 okV_num (fun q => by have k1 : vk (numV (tdN (narN cc is x y).2)) = 1 := rfl; exfalso; omega)⟩
  · rw [if_neg r]
    exact ⟨a1, a2⟩
theorem tdG_of {n : N6} {x : B64} (h : inN n x) : tdG n := (gN_td h.2 h.1).2
theorem num_j (h : gS B E th tp S c) (ho : okS E t S) {w : B64} (hw : fD w ≤ 10 ∧ (rgt w → fS w ≤ 10)) (hc : isCmp (fC w)) {g n : Int} (kd : vk (rgV S (dR w)) = 1) (ks : vk (sidJ S w) = 1) :
    ∃ b, cmT c w = some b ∧ (wayG B E (numJ S w g n t).2.1 (goT c (if b = true then g else n)) ∨ wayG B E (numJ S w g n t).2.2.1 (goT c (if b = true then g else n))) ∧ resO E t (numJ S w g n t) := by
  have f := fld_rng w
  have gd := gV_1 (rV_g h ho (dR_10 hw.1)) kd
  have d9 : dR w < 10 := by
    have := dR_10 hw.1
    refine Nat.lt_of_le_of_ne this fun e => ?_
    rw [e] at kd
    unfold rgV at kd
    rw [if_pos rfl] at kd
    have k3 : vk (mkV 3 ((sF S : Int) - 1) 0) = 3 := rfl
    omega
  have gy : (sdT c w).1 = 0 ∧ inN (vn (sidJ S w)) (sdT c w).2 := by
    unfold sidJ sdT at *
    by_cases r : rgt w
    · rw [if_pos r] at ks ⊢
      rw [if_pos r]
      exact gV_1 (rV_g h ho (sR_10 (hw.2 r))) ks
    · rw [if_neg r, if_neg r]
      exact ⟨rfl, inN_cst _⟩
  have s9 : rgt w → sRr w < 10 := fun r => by
    have := sR_10 (hw.2 r)
    refine Nat.lt_of_le_of_ne this fun e => ?_
    unfold sidJ at ks
    rw [if_pos r, e] at ks
    unfold rgV at ks
    rw [if_pos rfl] at ks
    have k3 : vk (mkV 3 ((sF S : Int) - 1) 0) = 3 := rfl
    omega
  have z2 : rgt w → (rdR c (sRr w)).1 = 0 := fun r => by
    have := gy.1
    unfold sdT at this
    rwa [if_pos r] at this
  refine ⟨cmpW (fC w) (decide (widJ w)) (rdR c (dR w)).2 (sdT c w).2, by unfold cmT; rw [if_pos ⟨gd.1, gy.1⟩], ?_⟩
  have d1 := @decN_1 (fC w) (decide (widJ w)) _ _ _ _ hc gd.2 gy.2
  have d0 := @decN_0 (fC w) (decide (widJ w)) _ _ _ _ hc gd.2 gy.2
  unfold numJ
  by_cases e1 : decN (fC w) (decide (widJ w)) (vn (rgV S (dR w))) (vn (sidJ S w)) = 1
  · rw [if_pos e1, d1 e1]
    exact ⟨Or.inl (wayG_1 rfl (goT_g h _)), Int.le_refl _, wayO_1 ho, wayO_0⟩
  · rw [if_neg e1]
    by_cases e0 : decN (fC w) (decide (widJ w)) (vn (rgV S (dR w))) (vn (sidJ S w)) = 0
    · rw [if_pos e0, d0 e0]
      exact ⟨Or.inl (wayG_1 rfl (goT_g h _)), Int.le_refl _, wayO_1 ho, wayO_0⟩
    · rw [if_neg e0]
      by_cases nn : (rgt w ∧ fD w = fS w) ∨ ¬ (widJ w ∨ ¬ isSgn (fC w) ∧ ¬ cF < jB (vn (rgV S (dR w))) ∧ ¬ cF < jB (vn (sidJ S w)))
      · rw [if_pos nn]
        refine ⟨?_, Int.le_refl _, wayO_1 ho, wayO_1 ho⟩
        cases cmpW (fC w) (decide (widJ w)) (rdR c (dR w)).2 (sdT c w).2
        · exact Or.inl (wayG_1 rfl (goT_g h _))
        · exact Or.inr (wayG_1 rfl (goT_g h _))
      · rw [if_neg nn]
        have ns : rgt w → sRr w < 10 ∧ ¬ dR w = sRr w := fun r => ⟨s9 r, fun e => nn (Or.inl ⟨r, by
          have e : (fD w).toNat = (fS w).toNat := e
          omega⟩)⟩
        have wd : widJ w ∨ ¬ isSgn (fC w) ∧ ¬ cF < jB (vn (rgV S (dR w))) ∧ ¬ cF < jB (vn (sidJ S w)) := Decidable.not_not.mp fun e => nn (Or.inr e)
        have ec : cmpW (fC w) (decide (widJ w)) (rdR c (dR w)).2 (sdT c w).2 = cmpB (fC w) true (rdR c (dR w)).2 (sdT c w).2 := by
          unfold cmpW
          by_cases wj : widJ w
          · rw [if_pos (decide_eq_true wj)]
          · rw [if_neg (by simpa using wj)]
            rcases wd with wd | ⟨w1, w2, w3⟩
            · exact absurd wd wj
            · rw [cut_id gd.2 w2, cut_id gy.2 w3, cmpB_w hc w1]
        rw [ec]
        -- on each way the numbers are as told
        have way : ∀ is, cmpB (fC w) true (rdR c (dR w)).2 (sdT c w).2 = is → inP (narN (fC w) is (vn (rgV S (dR w))) (vn (sidJ S w))) (rdR c (dR w)).2 (sdT c w).2 := fun is e => inP_nar hc gd.2 gy.2 e
        have okN' : ∀ is, okS E t (nrwS S w (fC w) is (vn (rgV S (dR w))) (vn (sidJ S w))) := fun is => by
          unfold nrwS
          have nr : ∀ (S' : ST) (n : N6), vk (numV n) = 9 ∨ vk (numV n) = 10 → ∃ k, k < 26 * sF S' ∧ vk (sV S' k) = vk (numV n) ∧ vt (sV S' k) = vt (numV n) := fun S' n q => by have k1 : vk (numV n) = 1 := rfl; exfalso; omega
          have o1 := wV_ok ho (Int.le_refl _) d9 (okV_num (E := E) (n := tdN (narN (fC w) is (vn (rgV S (dR w))) (vn (sidJ S w))).1)) (nr S _)
          split
          · rename_i r
            exact wV_ok o1 (Int.le_refl _) (s9 r) okV_num (nr _ _)
          · exact o1
        cases eb : cmpB (fC w) true (rdR c (dR w)).2 (sdT c w).2 with
        | true =>
          have p := way true eb
          have gg := (nrw_g h ho d9 ns p gd.1 z2).1
          rw [if_pos ⟨tdG_of p.1, tdG_of p.2⟩]
          split
          · exact ⟨Or.inr (wayG_1 rfl (goT_g gg _)), Int.le_refl _, wayO_1 (okN' _), wayO_1 (okN' _)⟩
          · exact ⟨Or.inl (wayG_1 rfl (goT_g gg _)), Int.le_refl _, wayO_1 (okN' _), wayO_0⟩
        | false =>
          have p := way false eb
          have gg := (nrw_g h ho d9 ns p gd.1 z2).1
          split
          · rw [if_pos ⟨tdG_of p.1, tdG_of p.2⟩]
            exact ⟨Or.inl (wayG_1 rfl (goT_g gg _)), Int.le_refl _, wayO_1 (okN' _), wayO_1 (okN' _)⟩
          · rw [if_pos ⟨tdG_of p.1, tdG_of p.2⟩]
            exact ⟨Or.inl (wayG_1 rfl (goT_g gg _)), Int.le_refl _, wayO_1 (okN' _), wayO_0⟩
end JM
