section ST2
variable {W : Type} {B : WB W} {E : EV} {th : Int → Nat} {tp : Int → B64} {S : ST} {c : TC W} {t : Int}
theorem okV_0 {g : Nat} {v : VL} (k : vk v = 0) : okV E g t v := by
  refine ⟨by omega, ?_, ?_, ?_, ?_, ?_, ?_, ?_, ?_, ?_⟩ <;> intro e <;> (exfalso; omega)
theorem unpV_k (v : VL) : vk (unpV v) = 0 := by
  unfold unpV
  split
  · assumption
  · rfl
theorem putB_g (h : gS B E th tp S c) {f b n k m : Nat} (hf : f < sF S) (hb : b + n ≤ 128) (hk : k ≤ m ∧ m ≤ n) {c' : TC W} (hc : sameC B c c') (hm : ∀ i j, ¬ (i = f ∧ b ≤ j ∧ j < b + m) → cS c' i j = cS c i j) (hm1 : ∀ j, b ≤ j → j < b + m → (cS c' f j).1 = 1 ∧ (cS c' f j).2.2.toNat < 256) : gS B E th tp (putB S f b n k) c' := by
  obtain ⟨⟨p1, p2, p3, p4⟩, q1, q2, q3⟩ := hc
  obtain ⟨h1, h2, h3, h4, h5, h6, h7, h8⟩ := h
  refine ⟨p2.trans h1, fun f' r hf' hr => ?_, fun f' q hf' hq => ?_, ?_, ?_, h6, fun i j hi => ?_, h8⟩
  · rw [q1, q3, p3]
    show gV E _ _ _ th tp (if 26 * f + 10 + b / 8 ≤ 26 * f' + r ∧ 26 * f' + r ≤ 26 * f + 10 + (b + n - 1) / 8 ∧ 0 < n then _ else sV S (26 * f' + r)) _
    rw [if_neg (by omega)]
    exact h2 f' r hf' hr
  · rw [q1, q3]
    show gP E _ _ _ th tp (if 26 * f + 10 + b / 8 ≤ 26 * f' + 10 + q ∧ 26 * f' + 10 + q ≤ 26 * f + 10 + (b + n - 1) / 8 ∧ 0 < n then _ else sV S (26 * f' + 10 + q)) _
    have old := h3 f' q hf' hq
    by_cases c1 : 26 * f + 10 + b / 8 ≤ 26 * f' + 10 + q ∧ 26 * f' + 10 + q ≤ 26 * f + 10 + (b + n - 1) / 8 ∧ 0 < n
    · rw [if_pos c1]
      have ef : f' = f := by omega
      subst ef
      refine ⟨fun _ i hi hbit => ?_, fun e => absurd (unpV_k _) e⟩
      have hbit : (((List.range 8).foldl (fun (a : Nat) i => if b ≤ 8 * (26 * f' + 10 + q - (26 * f' + 10)) + i ∧ 8 * (26 * f' + 10 + q - (26 * f' + 10)) + i < b + k then a ||| 1 <<< i else a) (vr (unpV (sV S (26 * f' + 10 + q)))).toNat : Nat) : Int).toNat.testBit i = true := hbit
      rw [Int.toNat_natCast, fold_or, show 26 * f' + 10 + q - (26 * f' + 10) = q by omega] at hbit
      show (cS c' f' (8 * q + i)).1 = 1
      by_cases c2 : b ≤ 8 * q + i ∧ 8 * q + i < b + m
      · exact (hm1 _ c2.1 c2.2).1
      · rw [hm f' (8 * q + i) (fun e => c2 e.2)]
        have hbit : (vr (unpV (sV S (26 * f' + 10 + q)))).toNat.testBit i = true := by
          have c3 : ¬ (b ≤ 8 * q + i ∧ 8 * q + i < b + k) := by omega
          simpa [c3] using hbit
        unfold unpV at hbit
        split at hbit
        · rename_i k0
          exact old.1 k0 i hi hbit
        · rename_i k0
          by_cases k1 : vk (sV S (26 * f' + 10 + q)) = 1
          · obtain ⟨s, s1, s2⟩ := old.2 k0
            have z := (gV_1 s1 k1).1
            rcases s2 with s2 | s2
            · exact s2.2.1 i hi
            · exfalso; omega
          · exfalso
            have hbit : (vr (bytV (if vk (sV S (26 * f' + 10 + q)) = 1 then 255 else 0))).toNat.testBit i = true := hbit
            rw [if_neg k1] at hbit
            have hbit : (0 : Int).toNat.testBit i = true := hbit
            simp at hbit
    · rw [if_neg c1]
      have e : (fun i => cS c' f' (8 * q + i)) = (fun i => if i < 8 then cS c f' (8 * q + i) else cS c' f' (8 * q + i)) := by
        funext i
        by_cases i8 : i < 8
        · rw [if_pos i8]
          exact hm f' (8 * q + i) (fun e => c1 (by obtain ⟨e1, e2, e3⟩ := e; subst e1; omega))
        · rw [if_neg i8]
      have ee : ∀ i, i < 8 → (fun i => cS c' f' (8 * q + i)) i = (fun i => cS c f' (8 * q + i)) i := fun i hi => by
        rw [e]
        exact if_pos hi
      refine ⟨fun k0 i hi hbit => by rw [ee i hi]; exact old.1 k0 i hi hbit, fun k0 => ?_⟩
      obtain ⟨s, s1, s2⟩ := old.2 k0
      refine ⟨s, s1, ?_⟩
      rcases s2 with ⟨a1, a2, a3⟩ | ⟨a1, a2⟩
      · refine Or.inl ⟨a1, fun i hi => by rw [ee i hi]; exact a2 i hi, ?_⟩
        rw [← a3]
        congr 1
        refine List.map_congr_left fun i hi => ?_
        have := ee i (List.mem_range.mp hi)
        exact congrArg (fun z : MB => z.2.2) this
      · exact Or.inr ⟨a1, fun i hi => by rw [ee i hi]; exact a2 i hi⟩
  · rw [p4]; exact h4
  · rw [q2]; exact h5
  · by_cases c2 : i = f ∧ b ≤ j ∧ j < b + m
    · rw [c2.1]
      exact (hm1 j c2.2.1 c2.2.2).2
    · rw [hm i j c2] at hi ⊢
      exact h7 i j hi
theorem putB_ok (ho : okS E t S) {f b n k : Nat} : okS E t (putB S f b n k) := by
  obtain ⟨o1, o2, o3, o4, o5, o6⟩ := ho
  refine ⟨o1, fun j hj => ?_, fun j j' hj hj' a a' => ?_, o4, o5, o6⟩
  · show okV E (j / 26) t (if 26 * f + 10 + b / 8 ≤ j ∧ j ≤ 26 * f + 10 + (b + n - 1) / 8 ∧ 0 < n then _ else sV S j)
    split
    · exact okV_0 (unpV_k _)
    · exact o2 j hj
  · have a : vk (if 26 * f + 10 + b / 8 ≤ j ∧ j ≤ 26 * f + 10 + (b + n - 1) / 8 ∧ 0 < n then _ else sV S j) = 9 := a
    have a' : vk (if 26 * f + 10 + b / 8 ≤ j' ∧ j' ≤ 26 * f + 10 + (b + n - 1) / 8 ∧ 0 < n then _ else sV S j') = 10 := a'
    show ¬ vt (if 26 * f + 10 + b / 8 ≤ j ∧ j ≤ 26 * f + 10 + (b + n - 1) / 8 ∧ 0 < n then _ else sV S j) = vt (if 26 * f + 10 + b / 8 ≤ j' ∧ j' ≤ 26 * f + 10 + (b + n - 1) / 8 ∧ 0 < n then _ else sV S j')
    by_cases c1 : 26 * f + 10 + b / 8 ≤ j ∧ j ≤ 26 * f + 10 + (b + n - 1) / 8 ∧ 0 < n
    · rw [if_pos c1] at a
      have := unpV_k (sV S j)
      exfalso
      have a : vk (unpV (sV S j)) = 9 := a
      omega
    · by_cases c2 : 26 * f + 10 + b / 8 ≤ j' ∧ j' ≤ 26 * f + 10 + (b + n - 1) / 8 ∧ 0 < n
      · rw [if_pos c2] at a'
        have := unpV_k (sV S j')
        exfalso
        have a' : vk (unpV (sV S j')) = 10 := a'
        omega
      · rw [if_neg c1] at a ⊢
        rw [if_neg c2] at a' ⊢
        exact o3 j j' hj hj' a a'
/-- a whole part -/
theorem upP_g (h : gS B E th tp S c) {f q : Nat} (hf : f < sF S) (hq : q < 16) {v : VL} {s : SV} (gv : gV E (B.1 (cW c)) (B.2.2.2.2 (cW c)) (sH S) th tp v s) (k0 : ¬ vk v = 0) {c' : TC W} (hc : sameC B c c') (hm : ∀ i j, ¬ (i = f ∧ 8 * q ≤ j ∧ j < 8 * q + 8) → cS c' i j = cS c i j) (hm1 : hol s fun i => cS c' f (8 * q + i)) (hm2 : ∀ j, 8 * q ≤ j → j < 8 * q + 8 → (cS c' f j).1 = 1 → (cS c' f j).2.2.toNat < 256) : gS B E th tp (sF S, upV (sV S) (26 * f + 10 + q) v, sB S, sH S) c' := by
  obtain ⟨⟨p1, p2, p3, p4⟩, q1, q2, q3⟩ := hc
  obtain ⟨h1, h2, h3, h4, h5, h6, h7, h8⟩ := h
  refine ⟨p2.trans h1, fun f' r hf' hr => ?_, fun f' q' hf' hq' => ?_, ?_, ?_, h6, fun i j hi => ?_, h8⟩
  · rw [q1, q3, p3]
    show gV E _ _ _ th tp (if 26 * f' + r = 26 * f + 10 + q then v else sV S (26 * f' + r)) _
    rw [if_neg (by omega)]
    exact h2 f' r hf' hr
  · rw [q1, q3]
    show gP E _ _ _ th tp (if 26 * f' + 10 + q' = 26 * f + 10 + q then v else sV S (26 * f' + 10 + q')) _
    by_cases c1 : 26 * f' + 10 + q' = 26 * f + 10 + q
    · rw [if_pos c1]
      have e1 : f' = f := by omega
      have e2 : q' = q := by omega
      subst e1
      subst e2
      exact ⟨fun e => absurd e k0, fun _ => ⟨s, gv, hm1⟩⟩
    · rw [if_neg c1]
      have old := h3 f' q' hf' hq'
      have ee : ∀ i, i < 8 → cS c' f' (8 * q' + i) = cS c f' (8 * q' + i) := fun i hi => hm _ _ (fun e => c1 (by obtain ⟨e1, e2, e3⟩ := e; subst e1; omega))
      refine ⟨fun z i hi hbit => ?_, fun z => ?_⟩
      · show (cS c' f' (8 * q' + i)).1 = 1
        rw [ee i hi]; exact old.1 z i hi hbit
      · obtain ⟨s, s1, s2⟩ := old.2 z
        refine ⟨s, s1, ?_⟩
        rcases s2 with ⟨a1, a2, a3⟩ | ⟨a1, a2⟩
        · refine Or.inl ⟨a1, fun i hi => by show (cS c' f' (8 * q' + i)).1 = 1; rw [ee i hi]; exact a2 i hi, ?_⟩
          rw [← a3]
          congr 1
          refine List.map_congr_left fun i hi => ?_
          exact congrArg (fun z : MB => z.2.2) (ee i (List.mem_range.mp hi))
        · exact Or.inr ⟨a1, fun i hi => by show cS c' f' (8 * q' + i) = _; rw [ee i hi]; exact a2 i hi⟩
  · rw [p4]; exact h4
  · rw [q2]; exact h5
  · by_cases c2 : i = f ∧ 8 * q ≤ j ∧ j < 8 * q + 8
    · rw [c2.1] at hi ⊢
      exact hm2 j c2.2.1 c2.2.2 hi
    · rw [hm i j c2] at hi ⊢
      exact h7 i j hi
theorem upP_ok (ho : okS E t S) {f q : Nat} (hf : f < sF S) (hq : q < 16) {v : VL} (hv : okV E f t v) (hs : vk v = 9 ∨ vk v = 10 → ∃ k, k < 26 * sF S ∧ vk (sV S k) = vk v ∧ vt (sV S k) = vt v) : okS E t (sF S, upV (sV S) (26 * f + 10 + q) v, sB S, sH S) := by
  obtain ⟨o1, o3, o4, o5, o6⟩ := ho
  refine ⟨o1, fun k hk => ?_, fun k k' hk hk' a b => ?_, o5, o6⟩
  · show okV E (k / 26) t (if k = 26 * f + 10 + q then v else sV S k)
    by_cases e : k = 26 * f + 10 + q
    · rw [if_pos e, show k / 26 = f by omega]
      exact hv
    · rw [if_neg e]
      exact o3 k hk
  · have a : vk (if k = 26 * f + 10 + q then v else sV S k) = 9 := a
    have b : vk (if k' = 26 * f + 10 + q then v else sV S k') = 10 := b
    show ¬ vt (if k = 26 * f + 10 + q then v else sV S k) = vt (if k' = 26 * f + 10 + q then v else sV S k')
    by_cases e : k = 26 * f + 10 + q <;> by_cases e' : k' = 26 * f + 10 + q
    · rw [if_pos e] at a
      rw [if_pos e'] at b
      omega
    · rw [if_pos e] at a ⊢
      rw [if_neg e'] at b ⊢
      obtain ⟨j, j1, j2, j3⟩ := hs (Or.inl a)
      rw [← j3]
      exact o4 j k' j1 hk' (j2.trans a) b
    · rw [if_neg e] at a ⊢
      rw [if_pos e'] at b ⊢
      obtain ⟨j, j1, j2, j3⟩ := hs (Or.inr b)
      rw [← j3]
      exact o4 k j hk j1 a (j2.trans b)
    · rw [if_neg e] at a ⊢
      rw [if_neg e'] at b ⊢
      exact o4 k k' hk hk' a b
/-- bytes of a number come to a place -/
theorem wrL_g (hB : okB B) (h : gS B E th tp S c) (ho : okS E t S) {v : VL} {s : SV} {x n : Nat} {l : List B64} (hl : l.length = n) (hy : ∀ y ∈ l, y.toNat < 256) (lo : locG B S c v s.1 x n) : ∃ c', wrL B c s.1 x l = some c' ∧ cP c' = cP c ∧ cR c' = cR c ∧ (vk v = 3 → sameC B c c' ∧ (∀ i j, ¬ (i = (vw v).toNat ∧ x ≤ j ∧ j < x + n) → cS c' i j = cS c i j) ∧ ∀ j, x ≤ j → j < x + n → cS c' (vw v).toNat j = (1, 0, l.getD (j - x) 0#64) ∧ (l.getD (j - x) 0#64).toNat < 256) ∧ (¬ vk v = 3 → gS B E th tp S c') := by
  have gd : ∀ i, (l.getD i 0#64).toNat < 256 := fun i => by
    by_cases e : i < l.length
    · rw [List.getD_eq_getElem?_getD, List.getElem?_eq_getElem e]
      exact hy _ (List.getElem_mem e)
    · rw [List.getD_eq_getElem?_getD, List.getElem?_eq_none (by omega)]
      decide
  by_cases k : vk v = 3
  · rcases lo with lo | lo
    · obtain ⟨_, ⟨e, fs⟩, xl⟩ := lo
      have := ho.1
      obtain ⟨c', e1, ⟨e2, e3, e4, e5⟩, e6, e7⟩ := wrL_stk (B := B) (f := (vw v).toNat) (by omega) l x c (by omega)
      rw [e]
      refine ⟨c', e1, e2, e4, fun _ => ⟨⟨⟨e2, e3, e4, e5⟩, by rw [e6], by rw [e6], by rw [e6]⟩, fun i j q => ?_, fun j j1 j2 => ⟨?_, gd _⟩⟩, fun q => absurd k q⟩
      · rw [e7]
        exact if_neg (by rw [hl]; exact q)
      · rw [e7]
        exact if_pos ⟨rfl, j1, by omega⟩
    · exact absurd k lo.1
  · obtain ⟨c', e1, e2, e3⟩ := wrL_wld hB (S := S) (v := v) k l x c (by rw [hl]; exact lo)
    exact ⟨c', e1, e2.1.1, e2.1.2.2.1, fun q => absurd q k, fun _ => gS_same h e2 e3⟩
theorem bys_lt (x : B64) (n : Nat) : (bysN x n).length = n ∧ ∀ y ∈ bysN x n, y.toNat < 256 := by
  refine ⟨by unfold bysN; rw [List.length_map, List.length_range], fun y hy => ?_⟩
  obtain ⟨j, _, e⟩ := List.mem_map.mp hy
  rw [← e]
  exact byJ_lt x j
/-- what a store of a number makes -/
theorem num_g (hB : okB B) (h : gS B E th tp S c) (ho : okS E t S) {v : VL} {s : SV} {x n : Nat} (hn : 1 ≤ n) {y : B64} (lo : locG B S c v s.1 x n) : ∃ c', wrL B c s.1 x (bysN y n) = some c' ∧ cP c' = cP c ∧ cR c' = cR c ∧ gS B E th tp (if vk v = 3 then putB S (vw v).toNat x n n else S) c' := by
  obtain ⟨c', e1, e2, e3, e4, e5⟩ := wrL_g hB h ho (bys_lt y n).1 (bys_lt y n).2 lo
  refine ⟨c', e1, e2, e3, ?_⟩
  by_cases k : vk v = 3
  · rw [if_pos k]
    obtain ⟨a1, a2, a3⟩ := e4 k
    rcases lo with lo | lo
    · refine putB_g (m := n) h lo.2.1.2 lo.2.2 ⟨Nat.le_refl _, Nat.le_refl _⟩ a1 a2 fun j j1 j2 => ?_
      obtain ⟨b1, b2⟩ := a3 j j1 j2
      rw [b1]
      exact ⟨rfl, b2⟩
    · exact absurd k lo.1
  · rw [if_neg k]
    exact e5 k
/-- the value that is stored -/
theorem val_g (h : gS B E th tp S c) (ho : okS E t S) {w : B64} (hs : fL w = 3 → fS w ≤ 10) : gV E (B.1 (cW c)) (B.2.2.2.2 (cW c)) (sH S) th tp (if fL w = 3 then rgV S (sRr w) else numV (cstN (BitVec.ofInt 64 (fI w)))) (if fL w = 3 then rdR c (sRr w) else (0, BitVec.ofInt 64 (fI w))) ∧ okV E (sF S - 1) t (if fL w = 3 then rgV S (sRr w) else numV (cstN (BitVec.ofInt 64 (fI w)))) ∧ (vk (if fL w = 3 then rgV S (sRr w) else numV (cstN (BitVec.ofInt 64 (fI w)))) = 9 ∨ vk (if fL w = 3 then rgV S (sRr w) else numV (cstN (BitVec.ofInt 64 (fI w)))) = 10 → ∃ k, k < 26 * sF S ∧ vk (sV S k) = vk (if fL w = 3 then rgV S (sRr w) else numV (cstN (BitVec.ofInt 64 (fI w)))) ∧ vt (sV S k) = vt (if fL w = 3 then rgV S (sRr w) else numV (cstN (BitVec.ofInt 64 (fI w))))) := by
  by_cases e : fL w = 3
  · rw [if_pos e, if_pos e]
    exact ⟨rV_g h ho (sR_10 (hs e)), rV_ok ho (sR_10 (hs e)), rV_at ho (sR_10 (hs e))⟩
  · rw [if_neg e, if_neg e]
    have k1 : vk (numV (cstN (BitVec.ofInt 64 (fI w)))) = 1 := rfl
    exact ⟨gV_num (inN_cst _), okV_num, fun q => by exfalso; omega⟩
theorem sto_g {H : WH W} (hB : okB B) (hH : ∀ w x, B.1 (H.2.1 w x) = B.1 w ∧ B.2.2.2.1 (H.2.1 w x) = B.2.2.2.1 w ∧ B.2.2.2.2 (H.2.1 w x) = B.2.2.2.2 w) (h : gS B E th tp S c) (ho : okS E t S) {w : B64} (hw : fD w ≤ 10 ∧ (fL w = 3 → fS w ≤ 10)) (hf : (stoV E S w).1 = 0) : ∃ c', stoT B H c w = some c' ∧ cP c' = cP c ∧ gS B E th tp (stoV E S w).2 c' ∧ okS E t (stoV E S w).2 := by
  have f := fld_rng w
  have gx := rV_g h ho (r := dR w) (dR_10 hw.1)
  have ox := rV_ok ho (r := dR w) (dR_10 hw.1)
  have hs : sF S - 1 < 4 := by have := ho.1; omega
  obtain ⟨bn, b8⟩ := bytN_r w
  have ob : -32768 ≤ fO w ∧ fO w ≤ 32768 := by omega
  have on : 1 ≤ bytN w ∧ bytN w ≤ 128 := by omega
  obtain ⟨gv, ov, rv⟩ := val_g h ho hw.2
  unfold stoV at hf ⊢
  unfold stoT
  simp only
  generalize (if fL w = 3 then rgV S (sRr w) else numV (cstN (BitVec.ofInt 64 (fI w)))) = V at *
  generalize (if fL w = 3 then rdR c (sRr w) else (0, BitVec.ofInt 64 (fI w))) = v at *
  split at hf
  · exfalso; have hf : (3 : Int) = 0 := hf; omega
  · rename_i k0
    rw [if_neg k0]
    split at hf
    · exfalso; have hf : (3 : Int) = 0 := hf; omega
    · rename_i v0
      rw [if_neg v0]
      split at hf
      · rename_i k2
        rw [if_pos k2]
        have e := gV_2 gx k2
        rw [if_pos (show (rdR c (dR w)).1 = 1 by rw [e])]
        split at hf
        · exfalso; have hf : (9 : Int) = 0 := hf; omega
        · rename_i q
          rw [if_neg q]
          split at hf
          · exfalso; have hf : (7 : Int) = 0 := hf; omega
          · rename_i q2
            have q2 : vk V = 1 := Decidable.not_not.mp q2
            rw [if_neg (not_not_intro q2), if_pos ⟨by omega, by omega, (gV_1 gv q2).1⟩]
            exact ⟨_, rfl, rfl, gS_same h ⟨⟨rfl, rfl, rfl, rfl⟩, hH _ _⟩ rfl, ho⟩
      · rename_i k2
        rw [if_neg k2]
        split at hf
        · rename_i q; exact absurd hf q
        · rename_i q
          have q' : plcF (rgV S (dR w)) = 0 := Decidable.not_not.mp q
          rw [if_neg q]
          have mv := plcF_0 q'
          split at hf
          · exfalso; have hf : (5 : Int) = 0 := hf; omega
          · rename_i q2
            have rm : room E (rgV S (dR w)) (fO w) (bytN w) := Decidable.not_not.mp q2
            rw [if_neg q2]
            obtain ⟨lo, lx⟩ := room_g h ho mv gx ox ob on rm
            have n1 : ¬ (rdR c (dR w)).1 = 1 := by
              have := mvs_pt hs mv gx ox
              unfold isPt at this
              omega
            rw [if_neg n1]
            generalize ex : (offN (rdR c (dR w)).2 (fO w)).toNat = x at *
            split at hf
            · exfalso; have hf : (7 : Int) = 0 := hf; omega
            · rename_i q3
              rw [if_neg q3]
              by_cases wh : vk (rgV S (dR w)) = 3 ∧ bytN w = 8 ∧ (vo (rgV S (dR w)) + fO w + 128) % 8 = 0
              · rw [if_pos wh] at hf ⊢
                have lx := lx wh.1
                have o3 := ox.2.2.1 wh.1
                rcases lo with lo | lo
                · obtain ⟨_, ⟨fo, fs⟩, xl⟩ := lo
                  have xe : (vo (rgV S (dR w)) + fO w + 128).toNat = x := by omega
                  have e8 : 8 * (x / 8) = x := by omega
                  rw [xe]
                  have oV : okV E (vw (rgV S (dR w))).toNat t V := by
                    obtain ⟨y1, y2, y3, y4⟩ := ov
                    refine ⟨y1, y2, fun k3 => ?_, y4⟩
                    have := y3 k3
                    have : ¬ vw (rgV S (dR w)) < vw V := fun e => q3 ⟨by omega, Or.inr ⟨k3, e⟩⟩
                    omega
                  have okk := upP_ok ho fs (show x / 8 < 16 by omega) oV rv
                  by_cases v1 : v.1 = 0
                  · rw [if_pos v1]
                    obtain ⟨c', e1, e2, e3, e4, _⟩ := wrL_g hB h ho (bys_lt v.2 (bytN w)).1 (bys_lt v.2 (bytN w)).2 (Or.inl ⟨wh.1, ⟨fo, fs⟩, xl⟩ : locG B S c (rgV S (dR w)) (rdR c (dR w)).1 x (bytN w))
                    obtain ⟨a1, a2, a3⟩ := e4 wh.1
                    refine ⟨c', e1, e2, upP_g h fs (by omega) gv v0 a1 (fun i j e => a2 i j (fun e' => e ?_)) ?_ ?_, okk⟩
                    · rw [e8]; rw [wh.2.1] at e'; exact e'
                    · refine Or.inl ⟨v1, fun i hi => ?_, ?_⟩
                      · show (cS c' _ (8 * (x / 8) + i)).1 = 1
                        rw [e8, (a3 (x + i) (by omega) (by omega)).1]
                      · have : ((List.range 8).map fun i => (cS c' (vw (rgV S (dR w))).toNat (8 * (x / 8) + i)).2.2) = bysN v.2 8 := by
                          refine List.map_congr_left fun i hi => ?_
                          have hi := List.mem_range.mp hi
                          rw [e8, (a3 (x + i) (by omega) (by omega)).1, wh.2.1]
                          show (bysN v.2 8).getD (x + i - x) 0#64 = _
                          unfold bysN
                          rw [show x + i - x = i by omega, List.getD_eq_getElem?_getD, List.getElem?_map, List.getElem?_range hi]
                          rfl
                        rw [this]
                        exact leN_bys _
                    · intro j j1 j2 _
                      obtain ⟨b1, b2⟩ := a3 j (by omega) (by omega)
                      rw [b1]
                      exact b2
                  · rw [if_neg v1]
                    have ne := pt_ne hs gv ov v0
                    have f5 : 2 ≤ 2 + (vw (rgV S (dR w))).toNat ∧ 2 + (vw (rgV S (dR w))).toNat ≤ 5 := by omega
                    rw [fo, if_pos ⟨⟨f5, wh.2.1⟩, ⟨by omega, by omega⟩, ne⟩, show 2 + (vw (rgV S (dR w))).toNat - 2 = (vw (rgV S (dR w))).toNat by omega]
                    refine ⟨_, rfl, rfl, upP_g h fs (by omega) gv v0 ⟨⟨rfl, rfl, rfl, rfl⟩, rfl, rfl, rfl⟩ (fun i j e => ?_) (Or.inr ⟨⟨by omega, ne⟩, fun i hi => ?_⟩) (fun j j1 j2 e => ?_), okk⟩
                    · show (if i = _ ∧ x ≤ j ∧ j < x + 8 then _ else cS c i j) = _
                      rw [if_neg (by rw [e8] at e; exact e)]
                    · show (if (vw (rgV S (dR w))).toNat = (vw (rgV S (dR w))).toNat ∧ x ≤ 8 * (x / 8) + i ∧ 8 * (x / 8) + i < x + 8 then (2 + (8 * (x / 8) + i - x), v.1, v.2) else _) = _
                      rw [if_pos ⟨rfl, by omega, by omega⟩, show 8 * (x / 8) + i - x = i by omega]
                    · have e : (if (vw (rgV S (dR w))).toNat = (vw (rgV S (dR w))).toNat ∧ x ≤ j ∧ j < x + 8 then (2 + (j - x), v.1, v.2) else cS c _ j).1 = 1 := e
                      rw [if_pos ⟨rfl, by omega, by omega⟩] at e
                      exfalso
                      have e : 2 + (j - x) = 1 := e
                      omega
                · exact absurd wh.1 lo.1
              · rw [if_neg wh] at hf ⊢
                have k1 : vk V = 1 := Decidable.byContradiction fun e => q3 ⟨e, Or.inl wh⟩
                rw [if_pos (gV_1 gv k1).1]
                obtain ⟨c', e1, e2, e3, e4⟩ := num_g hB h ho on.1 (y := v.2) lo
                refine ⟨c', e1, e2, ?_⟩
                by_cases k3 : vk (rgV S (dR w)) = 3
                · have lx := lx k3
                  have xe : (vo (rgV S (dR w)) + fO w + 128).toNat = x := by omega
                  rw [if_pos k3, xe]
                  rw [if_pos k3] at e4
                  exact ⟨e4, putB_ok ho⟩
                · rw [if_neg k3]
                  rw [if_neg k3] at e4
                  exact ⟨e4, ho⟩
end ST2
