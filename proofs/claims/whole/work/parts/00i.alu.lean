/-! ===== ALU instructions: what the judge says is so ===== -/
theorem ofI_add (a : Int) (d : B64) : BitVec.ofInt 64 (a + d.toInt) = BitVec.ofInt 64 a + d := by
  rw [BitVec.ofInt_add, BitVec.ofInt_toInt]
theorem add_r3 (a b c : B64) : a + b + c = a + c + b := add_r a b c
section AL
variable {E : EV} {ps : Nat} {rz : Nat → Int} {hd : List Int} {th : Int → Nat} {tp : Int → B64} {g : Nat} {t : Int}
theorem mvs_pt {p : VL} {a : SV} (hg : g < 4) (hp : mvs p) (gv : gV E ps rz hd th tp p a) (ov : okV E g t p) : isPt a.1 := by
  rcases hp with k | k | k | k
  · have e := gV_3 gv k
    have o := ov.2.2.1 k
    rw [e]
    show isPt (2 + vw p).toNat
    left
    omega
  · obtain ⟨j, q, j1, e, -⟩ := gV_5 gv k
    have o := ov.2.2.2.2.1 (Or.inl k)
    rw [e]
    right; left
    show 16 ≤ 16 + 32 * (vw p).toNat + j ∧ 16 + 32 * (vw p).toNat + j ≤ 271
    omega
  · rw [(gV_7 gv k).1]
    right; right; left; rfl
  · obtain ⟨i, q, i1, e, -⟩ := gV_9 gv k
    rw [e]
    right; right; right
    show 300 ≤ 300 + i ∧ 300 + i ≤ 363
    omega
theorem shf_g {p : VL} {n : N6} {c : Int} {a : SV} {y : B64} (ht : 0 ≤ t) (hg : g < 4) (hp : mvs p) (gv : gV E ps rz hd th tp p a) (ov : okV E g t p) (hn : inN n y) (hc : c = 0 ∨ c = 16) (h : (shfV p n c t).1 = 0) :
    ∃ x : B64, t ≤ (shfV p n c t).2.2 ∧ gV E ps rz hd th (fun i => if i = t + 1 then x else tp i) (shfV p n c t).2.1 (a.1, if c = 0 then a.2 + y else a.2 - y) ∧ okV E g (shfV p n c t).2.2 (shfV p n c t).2.1 ∧ (vk (shfV p n c t).2.1 = vk p) ∧ (vk p = 9 → vt (shfV p n c t).2.1 = vt p) := by
  have ed : (if c = 0 then a.2 + y else a.2 - y) = a.2 + (if c = 0 then y else -y) := by
    split
    · rfl
    · rw [BitVec.sub_eq_add_neg]
  unfold shfV at h ⊢
  by_cases hC : isC n
  · rw [if_pos hC] at h ⊢
    have ey : y = jV n := gN_const hn.2 hC
    rw [ed, ey]
    generalize (if c = 0 then jV n else - jV n) = d at *
    split at h
    · exfalso; have h : (5 : Int) = 0 := h; omega
    · rename_i q
      rw [if_neg q]
      refine ⟨0#64, Int.le_refl _, ?_, ?_, rfl, fun _ => rfl⟩
      · have gv := gV_tp (x := 0#64) ov (show t < t + 1 by omega) gv
        rcases hp with k | k | k | k
        · refine mk_3 k ?_
          have e := gV_3 gv k
          rw [e]
          show (_, BitVec.ofInt 64 (128 + vo p) + d) = (_, BitVec.ofInt 64 (128 + (vo p + d.toInt)))
          rw [← Int.add_assoc, ofI_add]
        · refine mk_5 k ?_
          obtain ⟨j, r, j1, e, j2⟩ := gV_5 gv k
          refine ⟨j, r, j1, ?_, j2⟩
          rw [e]
          show (_, BitVec.ofInt 64 (vo p) + r + d) = (_, BitVec.ofInt 64 (vo p + d.toInt) + r)
          rw [ofI_add, add_r]
        · refine mk_7 k ?_
          obtain ⟨e, j1, j2⟩ := gV_7 gv k
          refine ⟨?_, j1, j2⟩
          rw [e]
          show (_, BitVec.ofInt 64 (vo p) + _ + d) = (_, BitVec.ofInt 64 (vo p + d.toInt) + _)
          rw [ofI_add, add_r]
        · refine mk_9 k ?_
          obtain ⟨i, r, i1, e, i2, i3⟩ := gV_9 gv k
          refine ⟨i, r, i1, ?_, i2, i3⟩
          rw [e]
          show (_, BitVec.ofInt 64 (vo p) + r + d) = (_, BitVec.ofInt 64 (vo p + d.toInt) + r)
          rw [ofI_add, add_r]
      · obtain ⟨o1, o2, o3⟩ := ov
        exact ⟨o1, fun _ => by show -4096 ≤ vo p + d.toInt ∧ vo p + d.toInt ≤ 4096; omega, o3⟩
  · rw [if_neg hC] at h ⊢
    split at h
    · exfalso; have h : (4 : Int) = 0 := h; omega
    · rename_i q
      rw [if_neg q]
      have c0 : c = 0 := by omega
      have k3 : ¬ vk p = 3 := fun e => q (Or.inr e)
      split at h
      · exfalso; have h : (5 : Int) = 0 := h; omega
      · rename_i q2
        rw [if_neg q2]
        have lb : (jB (tdN (addN (vn p) n))).toNat ≤ 65535 := by
          rw [BitVec.lt_def] at q2
          have : (65535#64).toNat = 65535 := rfl
          omega
        have inp : ∀ r, inN (vn p) r → inN (tdN (addN (vn p) n)) (r + y) := fun r hr => inN_td ⟨okN_add _ _, gN_add hr.1 hn.1 hr.2 hn.2⟩
        rw [if_pos c0]
        by_cases k7 : vk p = 7
        · rw [if_pos k7]
          obtain ⟨e, j1, j2⟩ := gV_7 gv k7
          refine ⟨tp (vt p) + y, by show t ≤ t + 1; omega, ?_, ?_, rfl, fun k9 => by exfalso; omega⟩
          · refine mk_7 k7 ⟨?_, ?_, Or.inl (Int.le_refl 0)⟩
            · rw [e]
              show (280, BitVec.ofInt 64 (vo p) + tp (vt p) + y) = (280, BitVec.ofInt 64 (vo p) + (if t + 1 = t + 1 then tp (vt p) + y else _))
              rw [if_pos rfl, BitVec.add_assoc]
            · show inN _ (if t + 1 = t + 1 then tp (vt p) + y else _)
              rw [if_pos rfl]
              exact inp _ j1
          · obtain ⟨o1, o2, o3, o4, o5, o6, o7, o8, o9, o10⟩ := ov
            refine ⟨o1, o2, o3, o4, o5, fun _ => lb, fun e => ?_, fun _ => by show 0 ≤ t + 1 ∧ t + 1 ≤ t + 1; omega, o9, fun _ => by show (0 : Int) ≤ 4097; decide⟩
            have e : vk p = 6 ∨ vk p = 9 ∨ vk p = 10 := e
            exfalso; omega
        · rw [if_neg k7]
          refine ⟨0#64, Int.le_refl _, ?_, ?_, rfl, fun _ => rfl⟩
          · have gv := gV_tp (x := 0#64) ov (show t < t + 1 by omega) gv
            rcases hp with k | k | k | k
            · exact absurd k k3
            · refine mk_5 k ?_
              obtain ⟨j, r, j1, e, j2⟩ := gV_5 gv k
              refine ⟨j, r + y, j1, ?_, inp r j2⟩
              rw [e]
              show (_, BitVec.ofInt 64 (vo p) + r + y) = (_, BitVec.ofInt 64 (vo p) + (r + y))
              rw [BitVec.add_assoc]
            · exact absurd k k7
            · refine mk_9 k ?_
              obtain ⟨i, r, i1, e, i2, i3⟩ := gV_9 gv k
              refine ⟨i, r + y, i1, ?_, inp r i2, i3⟩
              rw [e]
              show (_, BitVec.ofInt 64 (vo p) + r + y) = (_, BitVec.ofInt 64 (vo p) + (r + y))
              rw [BitVec.add_assoc]
          · obtain ⟨o1, o2, o3, o4, o5, o6, o7, o8, o9, o10⟩ := ov
            exact ⟨o1, o2, o3, o4, o5, fun _ => lb, o7, o8, o9, o10⟩
end AL
theorem wntN_0 {x y : VL} (h : wntN x y = 0) : vk x = 1 ∧ vk y = 1 := by
  unfold wntN at h
  split at h
  · omega
  · split at h
    · omega
    · omega
theorem fC_rng (w : B64) : ∃ k : Int, fC w = 16 * k ∧ 0 ≤ k ∧ k ≤ 15 := by
  refine ⟨fOp w / 16, ?_, ?_, ?_⟩
  · unfold fC; omega
  · unfold fOp; omega
  · unfold fOp; omega
theorem fld_rng (w : B64) : (0 ≤ fOp w ∧ fOp w < 256) ∧ (0 ≤ fD w ∧ fD w < 16) ∧ (0 ≤ fS w ∧ fS w < 16) ∧ (-32768 ≤ fO w ∧ fO w < 32768) ∧ (-2147483648 ≤ fI w ∧ fI w < 2147483648) := by
  have h1 := BitVec.le_toInt w
  have h2 := BitVec.toInt_lt (x := w)
  unfold fOp fD fS fO fI
  rw [Int.bmod_def]
  omega
theorem dR_9 {w : B64} (h : fD w ≤ 9) : dR w < 10 := by
  show (fD w).toNat < 10
  omega
theorem dR_10 {w : B64} (h : fD w ≤ 10) : dR w ≤ 10 := by
  show (fD w).toNat ≤ 10
  omega
theorem sR_9 {w : B64} (h : fS w ≤ 9) : sRr w < 10 := by
  show (fS w).toNat < 10
  omega
theorem sR_10 {w : B64} (h : fS w ≤ 10) : sRr w ≤ 10 := by
  show (fS w).toNat ≤ 10
  omega
section RG
variable {W : Type} {B : WB W} {E : EV} {th : Int → Nat} {tp : Int → B64} {S : ST} {c : TC W} {t : Int}
theorem rgt_g (h : gS B E th tp S c) (ho : okS E t S) {w : B64} (hr : rgt w → fS w ≤ 10) : gV E (B.1 (cW c)) (B.2.2.2.2 (cW c)) (sH S) th tp (rgtV S w) (rgT c w) ∧ okV E (sF S - 1) t (rgtV S w) := by
  have f := fld_rng w
  unfold rgtV rgT
  by_cases e : rgt w
  · rw [if_pos e, if_pos e]
    exact ⟨rV_g h ho (sR_10 (hr e)), rV_ok ho (sR_10 (hr e))⟩
  · rw [if_neg e, if_neg e]
    exact ⟨gV_num (inN_cst _), okV_num⟩
theorem rgtV_at (ho : okS E t S) {w : B64} (hr : rgt w → fS w ≤ 10) (h : vk (rgtV S w) = 9 ∨ vk (rgtV S w) = 10) : ∃ k, k < 26 * sF S ∧ vk (sV S k) = vk (rgtV S w) ∧ vt (sV S k) = vt (rgtV S w) := by
  unfold rgtV at h ⊢
  by_cases r : rgt w
  · rw [if_pos r] at h ⊢
    exact rV_at ho (sR_10 (hr r)) h
  · rw [if_neg r] at h
    have k1 : vk (numV (cstN (BitVec.ofInt 64 (fI w)))) = 1 := rfl
    exfalso; omega
/-- what a step of one register says: the place's number is as told -/
abbrev regG (B : WB W) (E : EV) (th : Int → Nat) (tp : Int → B64) (S : ST) (c : TC W) (t : Int) (v : VL) (t' : Int) (s : SV) : Prop :=
  ∃ tp' : Int → B64, t ≤ t' ∧ gS B E th tp' S c ∧ gV E (B.1 (cW c)) (B.2.2.2.2 (cW c)) (sH S) th tp' v s ∧ okV E (sF S - 1) t' v ∧ (vk v = 9 ∨ vk v = 10 → ∃ k, k < 26 * sF S ∧ vk (sV S k) = vk v ∧ vt (sV S k) = vt v)
theorem regG_num (h : gS B E th tp S c) {n : N6} {x : B64} (hn : inN n x) : regG B E th tp S c t (numV n) t (0, x) :=
  ⟨tp, Int.le_refl _, h, gV_num hn, okV_num, fun k => by have k1 : vk (numV n) = 1 := rfl; exfalso; omega⟩
theorem pt_ne {v : VL} {s : SV} {g : Nat} (hg : g < 4) (gv : gV E (B.1 (cW c)) (B.2.2.2.2 (cW c)) (sH S) th tp v s) (ov : okV E g t v) (k0 : ¬ vk v = 0) : ¬ s.1 = 6 := by
  intro e
  have r := ov.1
  have c : vk v = 1 ∨ vk v = 2 ∨ vk v = 3 ∨ vk v = 4 ∨ vk v = 5 ∨ vk v = 6 ∨ vk v = 7 ∨ vk v = 8 ∨ vk v = 9 ∨ vk v = 10 := by omega
  rcases c with k | k | k | k | k | k | k | k | k | k
  · have := (gV_1 gv k).1; omega
  · rw [gV_2 gv k] at e; simp at e
  · have q := mvs_pt hg (Or.inl k) gv ov; unfold isPt at q; omega
  · have q := gV_4 gv k; have o := ov.2.2.2.1 k; rw [q] at e; have e : 8 + (vw v).toNat = 6 := e; omega
  · have q := mvs_pt hg (Or.inr (Or.inl k)) gv ov; unfold isPt at q; omega
  · rcases gV_6 gv k with ⟨_, q⟩ | ⟨j, _, _, q⟩
    · rw [q] at e; simp at e
    · rw [q] at e; have e : 16 + 32 * (vw v).toNat + j = 6 := e; omega
  · have q := mvs_pt hg (Or.inr (Or.inr (Or.inl k))) gv ov; unfold isPt at q; omega
  · rw [gV_8 gv k] at e; simp at e
  · have q := mvs_pt hg (Or.inr (Or.inr (Or.inr k))) gv ov; unfold isPt at q; omega
  · rcases gV_10 gv k with ⟨_, q⟩ | ⟨j, _, q, _⟩
    · rw [q] at e; simp at e
    · rw [q] at e; have e : 300 + j = 6 := e; omega
theorem alu_g (h : gS B E th tp S c) (ho : okS E t S) {w : B64} (hw : okAlu w) (hf : (aluV S w t).1 = 0) : ∃ s, alT c w = some s ∧ regG B E th tp S c t (aluV S w t).2.1 (aluV S w t).2.2 s := by
  have f := fld_rng w
  obtain ⟨⟨d9, c208⟩, hw2⟩ := hw
  have gd := rV_g h ho (r := dR w) (Nat.le_of_lt (dR_9 d9))
  have od := rV_ok ho (r := dR w) (Nat.le_of_lt (dR_9 d9))
  have hs : sF S - 1 < 4 := by have := ho.1; omega
  have t0 : 0 ≤ t := ho.2.2.2.2.2.2
  obtain ⟨kk, ek, k0, k15⟩ := fC_rng w
  unfold aluV at hf ⊢
  unfold alT
  by_cases c1 : fC w = 208
  · rw [if_pos c1] at hf ⊢ hw2
    rw [if_pos c1]
    split at hf
    · rename_i q; exact absurd hf q
    · rename_i q
      have q : fst (wntS (rgV S (dR w))) (wntN (rgV S (dR w)) (rgV S (dR w))) = 0 := Decidable.not_not.mp q
      have q2 : wntN (rgV S (dR w)) (rgV S (dR w)) = 0 := by
        unfold fst at q
        split at q
        · exact q
        · rename_i e; exact absurd q e
      have k := (wntN_0 q2).1
      rw [if_neg (not_not_intro q), if_pos (gV_1 gd k).1]
      refine ⟨_, rfl, regG_num h (inN_trn ?_ (gV_1 gd k).2)⟩
      have := hw2.2.2.2
      omega
  · rw [if_neg c1] at hf ⊢ hw2
    rw [if_neg c1]
    split at hf
    · exfalso; have hf : (3 : Int) = 0 := hf; omega
    · rename_i q1
      rw [if_neg q1]
      have hr : rgt w → fS w ≤ 10 := by
        intro r
        by_cases c2 : fC w = 128
        · rw [if_pos c2] at hw2; exact absurd r hw2.1
        · rw [if_neg c2, if_pos r] at hw2; exact hw2.1.1
      obtain ⟨gy, oy⟩ := rgt_g h ho hr
      split at hf
      · exfalso; have hf : (3 : Int) = 0 := hf; omega
      · rename_i q2
        rw [if_neg q2]
        by_cases c3 : fC w = 176
        · rw [if_pos c3] at hf ⊢
          rw [if_pos c3]
          unfold movV at hf ⊢
          by_cases m1 : wid w ∧ fO w = 0
          · rw [if_pos m1]
            rw [if_pos m1, if_neg (pt_ne hs gy oy q2)]
            exact ⟨_, rfl, tp, Int.le_refl _, h, gy, oy, fun k => rgtV_at ho hr k⟩
          · rw [if_neg m1] at hf ⊢
            rw [if_neg m1]
            split at hf
            · rename_i q; exact absurd hf q
            · rename_i q
              have q : wntN (rgtV S w) (rgtV S w) = 0 := Decidable.not_not.mp q
              have k := (wntN_0 q).1
              rw [if_neg (not_not_intro q), if_neg (not_not_intro (gV_1 gy k).1)]
              have Y := (gV_1 gy k).2
              by_cases o0 : fO w = 0
              · rw [if_pos o0, if_pos o0]
                refine ⟨_, rfl, ?_⟩
                have e : (rgT c w).2 &&& cF = (rgT c w).2 &&& cF &&& cF := by
                  apply BitVec.eq_of_toNat_eq
                  rw [low32, low32, low32]
                  omega
                have := regG_num (t := t) h (inN_cut (inN_cut Y))
                rw [← e] at this
                exact this
              · rw [if_neg o0, if_neg o0]
                have hn : (fO w).toNat = 8 ∨ (fO w).toNat = 16 ∨ (fO w).toNat = 32 := by
                  rw [if_neg (show ¬ fC w = 128 by omega)] at hw2
                  have := hw2.2.1
                  omega
                by_cases wd : wid w
                · rw [if_pos wd, if_pos wd]
                  exact ⟨_, rfl, regG_num h (inN_ext hn Y)⟩
                · rw [if_neg wd, if_neg wd]
                  exact ⟨_, rfl, regG_num h (inN_extW hn (inN_cut Y))⟩
        · rw [if_neg c3] at hf ⊢
          rw [if_neg c3]
          by_cases c4 : fC w = 128
          · rw [if_pos c4] at hf ⊢
            rw [if_pos c4]
            split at hf
            · rename_i q; exact absurd hf q
            · rename_i q
              have q : wntN (rgV S (dR w)) (rgV S (dR w)) = 0 := Decidable.not_not.mp q
              have k := (wntN_0 q).1
              rw [if_neg (not_not_intro q), if_neg (not_not_intro (gV_1 gd k).1)]
              have Y := (gV_1 gd k).2
              by_cases wd : wid w
              · rw [if_pos wd, if_pos wd]
                exact ⟨_, rfl, regG_num h (inN_neg Y)⟩
              · rw [if_neg wd, if_neg wd]
                exact ⟨_, rfl, regG_num h (inN_cut (inN_neg (inN_cut Y)))⟩
          · rw [if_neg c4] at hf ⊢
            rw [if_neg c4]
            have hcode : isCode (fC w) := by unfold isCode; omega
            by_cases s1 : (wid w ∧ ¬ (isMb (rgV S (dR w)) ∨ isMb (rgtV S w))) ∧ (fC w = 0 ∨ fC w = 16) ∧ mvs (rgV S (dR w)) ∧ vk (rgtV S w) = 1
            · rw [if_pos s1] at hf ⊢
              obtain ⟨⟨wd, _⟩, hc, hp, ky⟩ := s1
              have pt := mvs_pt hs hp gd od
              have Y := gV_1 gy ky
              obtain ⟨x, x1, x2, x3, x4, x5⟩ := shf_g t0 hs hp gd od Y.2 hc hf
              have np : ¬ ((rdR c (dR w)).1 = 0 ∧ (rgT c w).1 = 0) := fun e => by unfold isPt at pt; omega
              rw [if_neg np]
              have keep : ∀ s, (s = ((rdR c (dR w)).1, if fC w = 0 then (rdR c (dR w)).2 + (rgT c w).2 else (rdR c (dR w)).2 - (rgT c w).2)) → regG B E th tp S c t (shfV (rgV S (dR w)) (vn (rgtV S w)) (fC w) t).2.1 (shfV (rgV S (dR w)) (vn (rgtV S w)) (fC w) t).2.2 s := fun s e => by
                subst e
                refine ⟨_, x1, gS_tp h ho (show t < t + 1 by omega) x, x2, x3, fun k => ?_⟩
                have k9 : vk (rgV S (dR w)) = 9 := by
                  rw [x4] at k
                  rcases hp with q | q | q | q <;> omega
                have := rV_at ho (r := dR w) (Nat.le_of_lt (dR_9 d9)) (Or.inl k9)
                rw [x4, x5 k9]
                exact this
              rcases hc with hc | hc
              · rw [if_pos ⟨⟨wd, hc⟩, pt, Y.1⟩]
                refine ⟨_, rfl, keep _ ?_⟩
                rw [if_pos hc]
              · rw [if_neg (fun e => by have := e.1.2; omega), if_pos ⟨⟨wd, hc⟩, pt, Y.1⟩]
                refine ⟨_, rfl, keep _ ?_⟩
                rw [if_neg (by omega)]
            · rw [if_neg s1] at hf ⊢
              by_cases s2 : (wid w ∧ ¬ (isMb (rgV S (dR w)) ∨ isMb (rgtV S w))) ∧ fC w = 0 ∧ vk (rgV S (dR w)) = 1 ∧ mvs (rgtV S w)
              · rw [if_pos s2] at hf ⊢
                obtain ⟨⟨wd, _⟩, hc, kd, hp⟩ := s2
                have pt := mvs_pt hs hp gy oy
                have Y := gV_1 gd kd
                obtain ⟨x, x1, x2, x3, x4, x5⟩ := shf_g t0 hs hp gy oy Y.2 (Or.inl hc) hf
                have np : ¬ ((rdR c (dR w)).1 = 0 ∧ (rgT c w).1 = 0) := fun e => by unfold isPt at pt; omega
                have n1 : ¬ ((wid w ∧ fC w = 0) ∧ isPt (rdR c (dR w)).1 ∧ (rgT c w).1 = 0) := fun e => by unfold isPt at pt; omega
                have n2 : ¬ ((wid w ∧ fC w = 16) ∧ isPt (rdR c (dR w)).1 ∧ (rgT c w).1 = 0) := fun e => by have := e.1.2; omega
                rw [if_neg np, if_neg n1, if_neg n2, if_pos ⟨⟨wd, hc⟩, Y.1, pt⟩]
                rw [if_pos hc] at x2
                refine ⟨_, rfl, _, x1, gS_tp h ho (show t < t + 1 by omega) x, x2, x3, fun k => ?_⟩
                have k9 : vk (rgtV S w) = 9 := by
                  rw [x4] at k
                  rcases hp with q | q | q | q <;> omega
                rw [x4, x5 k9]
                exact rgtV_at ho hr (Or.inl k9)
              · rw [if_neg s2] at hf ⊢
                split at hf
                · rename_i q; exact absurd hf q
                · rename_i q
                  have q : wntN (rgV S (dR w)) (rgtV S w) = 0 := Decidable.not_not.mp q
                  have k := wntN_0 q
                  rw [if_neg (not_not_intro q), if_pos ⟨(gV_1 gd k.1).1, (gV_1 gy k.2).1⟩]
                  by_cases wd : wid w
                  · rw [if_pos wd, if_pos wd]
                    exact ⟨_, rfl, regG_num h (inN_op hcode (gV_1 gd k.1).2 (gV_1 gy k.2).2)⟩
                  · rw [if_neg wd, if_neg wd]
                    exact ⟨_, rfl, regG_num h (inN_opW hcode (gV_1 gd k.1).2 (gV_1 gy k.2).2)⟩
end RG
