/-! ===== the class's reader: byte orders, PTR ===== -/
section CPT
variable {t : Nat → Int} {n i j k m l : Nat} {σ τ ρ υ : MS} {c d e o s w x y z a r : Int} {v W : B64} {T : TK}
theorem bS_r {α β : Type} {q : α} {f : α → Int ⊕ β} : bS (.inr q) f = f q := rfl
theorem bS_l {α β : Type} {e : Int} {f : α → Int ⊕ β} : bS (.inl e) f = .inl e := rfl
/-- two names are not one -/
theorem nm_x (h1 : nmP' t T i) (h2 : nmP' t T j) (hx : strAt i ≠ strAt j) : False := by
  obtain ⟨a, b⟩ := nm_l h1
  obtain ⟨c, d⟩ := nm_l h2
  refine hx (List.ext_getElem (a.symm.trans c) fun p p1 p2 => ?_)
  have e1 := b p p1
  have e2 := d p p2
  have x1 : (strAt i).getD p 0 = (strAt i)[p] := by rw [List.getD_eq_getElem?_getD, List.getElem?_eq_getElem p1]; rfl
  have x2 : (strAt j).getD p 0 = (strAt j)[p] := by rw [List.getD_eq_getElem?_getD, List.getElem?_eq_getElem p2]; rfl
  omega
def orC (t : Nat → Int) (T : TK) : Int := if (orT t T).1 < 0 then -1 else iOr (iShl (orT t T).2 8) (orT t T).1
theorem N106 {g0 g1 : Nat} (h : cG σ t n m k) (hn : nmP' t (tks t n k) j) (hl : 2 ≤ (strAt j).length) (e0 : (strAt j).getD 0 0 = g0) (e1 : (strAt j).getD 1 0 = g1) (hy : ¬ y = 0) (hr : iOr (iShl y 8) (if g0 = 108 then 212 else if g1 = 101 then 220 else 215) = r) : RR (lkB tb170) (B170_106, [some (mR (some 18)), none, none, none], [mI y], σ) = some (some (mI r), σ) := by
  obtain ⟨a1, a2, a3, a4, a5⟩ := cG_tk h h.2.2.1
  have km := cG_m h
  have le := tks_le (t := t) (n := n) k
  have n4 := h.1.1.2.1
  have ht := h.1.1
  have h8' := h.2.1
  obtain ⟨l1, l2⟩ := nm_l hn
  have d0 := l2 0 (by omega)
  have d1 := l2 1 (by omega)
  rw [e0, Nat.add_zero] at d0
  rw [e1] at d1
  generalize hT : tks t n k = T at *
  have p0 : tB T < n := by omega
  have p1 : tB T + 1 < n := by omega
  have q1 : tB T < 100000 := by omega
  rw [e170_106, if_pos hy, h8', if_pos (g21' km), Int.toNat_natCast, a2, if_pos (tp_c ht p0), if_pos (g21' km), w32_s1 q1, if_pos (tp_c ht p1), Int.toNat_natCast, Int.toNat_natCast, tp_g ht, tp_g ht, d0, d1, ← hr]
  by_cases c0 : g0 = 108
  · rw [if_neg (show ¬ ¬ (g0 : Int) = 108 by omega), if_pos c0]
  · rw [if_pos (show ¬ (g0 : Int) = 108 by omega), if_neg c0]
    by_cases c1 : g1 = 101
    · rw [if_neg (show ¬ ¬ (g1 : Int) = 101 by omega), if_pos c1]
    · rw [if_pos (show ¬ (g1 : Int) = 101 by omega), if_neg c1]
theorem oc_62 (h : nmP' t T 62) : orC t T = iOr (iShl 16 8) 212 := by
  have e : orT t T = (212, 16) := by
    unfold orT
    rw [if_pos h]
  unfold orC
  rw [e]
  rfl
theorem oc_65 (h : nmP' t T 65) : orC t T = iOr (iShl 32 8) 212 := by
  have e : orT t T = (212, 32) := by
    unfold orT
    rw [if_neg (show ¬ nmP' t T 62 from fun z => nm_x z h (by rw [st_62, st_65]; decide)), if_pos h]
  unfold orC
  rw [e]
  rfl
theorem oc_68 (h : nmP' t T 68) : orC t T = iOr (iShl 64 8) 212 := by
  have e : orT t T = (212, 64) := by
    unfold orT
    rw [if_neg (show ¬ nmP' t T 62 from fun z => nm_x z h (by rw [st_62, st_68]; decide)), if_neg (show ¬ nmP' t T 65 from fun z => nm_x z h (by rw [st_65, st_68]; decide)), if_pos h]
  unfold orC
  rw [e]
  rfl
theorem oc_63 (h : nmP' t T 63) : orC t T = iOr (iShl 16 8) 220 := by
  have e : orT t T = (220, 16) := by
    unfold orT
    rw [if_neg (show ¬ nmP' t T 62 from fun z => nm_x z h (by rw [st_62, st_63]; decide)), if_neg (show ¬ nmP' t T 65 from fun z => nm_x z h (by rw [st_65, st_63]; decide)), if_neg (show ¬ nmP' t T 68 from fun z => nm_x z h (by rw [st_68, st_63]; decide)), if_pos h]
  unfold orC
  rw [e]
  rfl
theorem oc_66 (h : nmP' t T 66) : orC t T = iOr (iShl 32 8) 220 := by
  have e : orT t T = (220, 32) := by
    unfold orT
    rw [if_neg (show ¬ nmP' t T 62 from fun z => nm_x z h (by rw [st_62, st_66]; decide)), if_neg (show ¬ nmP' t T 65 from fun z => nm_x z h (by rw [st_65, st_66]; decide)), if_neg (show ¬ nmP' t T 68 from fun z => nm_x z h (by rw [st_68, st_66]; decide)), if_neg (show ¬ nmP' t T 63 from fun z => nm_x z h (by rw [st_63, st_66]; decide)), if_pos h]
  unfold orC
  rw [e]
  rfl
theorem oc_69 (h : nmP' t T 69) : orC t T = iOr (iShl 64 8) 220 := by
  have e : orT t T = (220, 64) := by
    unfold orT
    rw [if_neg (show ¬ nmP' t T 62 from fun z => nm_x z h (by rw [st_62, st_69]; decide)), if_neg (show ¬ nmP' t T 65 from fun z => nm_x z h (by rw [st_65, st_69]; decide)), if_neg (show ¬ nmP' t T 68 from fun z => nm_x z h (by rw [st_68, st_69]; decide)), if_neg (show ¬ nmP' t T 63 from fun z => nm_x z h (by rw [st_63, st_69]; decide)), if_neg (show ¬ nmP' t T 66 from fun z => nm_x z h (by rw [st_66, st_69]; decide)), if_pos h]
  unfold orC
  rw [e]
  rfl
theorem oc_64 (h : nmP' t T 64) : orC t T = iOr (iShl 16 8) 215 := by
  have e : orT t T = (215, 16) := by
    unfold orT
    rw [if_neg (show ¬ nmP' t T 62 from fun z => nm_x z h (by rw [st_62, st_64]; decide)), if_neg (show ¬ nmP' t T 65 from fun z => nm_x z h (by rw [st_65, st_64]; decide)), if_neg (show ¬ nmP' t T 68 from fun z => nm_x z h (by rw [st_68, st_64]; decide)), if_neg (show ¬ nmP' t T 63 from fun z => nm_x z h (by rw [st_63, st_64]; decide)), if_neg (show ¬ nmP' t T 66 from fun z => nm_x z h (by rw [st_66, st_64]; decide)), if_neg (show ¬ nmP' t T 69 from fun z => nm_x z h (by rw [st_69, st_64]; decide)), if_pos h]
  unfold orC
  rw [e]
  rfl
theorem oc_67 (h : nmP' t T 67) : orC t T = iOr (iShl 32 8) 215 := by
  have e : orT t T = (215, 32) := by
    unfold orT
    rw [if_neg (show ¬ nmP' t T 62 from fun z => nm_x z h (by rw [st_62, st_67]; decide)), if_neg (show ¬ nmP' t T 65 from fun z => nm_x z h (by rw [st_65, st_67]; decide)), if_neg (show ¬ nmP' t T 68 from fun z => nm_x z h (by rw [st_68, st_67]; decide)), if_neg (show ¬ nmP' t T 63 from fun z => nm_x z h (by rw [st_63, st_67]; decide)), if_neg (show ¬ nmP' t T 66 from fun z => nm_x z h (by rw [st_66, st_67]; decide)), if_neg (show ¬ nmP' t T 69 from fun z => nm_x z h (by rw [st_69, st_67]; decide)), if_neg (show ¬ nmP' t T 64 from fun z => nm_x z h (by rw [st_64, st_67]; decide)), if_pos h]
  unfold orC
  rw [e]
  rfl
theorem oc_70 (h : nmP' t T 70) : orC t T = iOr (iShl 64 8) 215 := by
  have e : orT t T = (215, 64) := by
    unfold orT
    rw [if_neg (show ¬ nmP' t T 62 from fun z => nm_x z h (by rw [st_62, st_70]; decide)), if_neg (show ¬ nmP' t T 65 from fun z => nm_x z h (by rw [st_65, st_70]; decide)), if_neg (show ¬ nmP' t T 68 from fun z => nm_x z h (by rw [st_68, st_70]; decide)), if_neg (show ¬ nmP' t T 63 from fun z => nm_x z h (by rw [st_63, st_70]; decide)), if_neg (show ¬ nmP' t T 66 from fun z => nm_x z h (by rw [st_66, st_70]; decide)), if_neg (show ¬ nmP' t T 69 from fun z => nm_x z h (by rw [st_69, st_70]; decide)), if_neg (show ¬ nmP' t T 64 from fun z => nm_x z h (by rw [st_64, st_70]; decide)), if_neg (show ¬ nmP' t T 67 from fun z => nm_x z h (by rw [st_67, st_70]; decide)), if_pos h]
  unfold orC
  rw [e]
  rfl
/-- its code: bits, OP; -1 -/
theorem T170 (h : cG σ t n m k) : MM 170 [mR (some 18)] σ = some (some (mI (orC t (tks t n k))), σ) := by
  rw [M170, e170_0, T145 (j := 62) h (by decide)]
  simp only [Option.bind_some, Option.toList_some, Option.toList_none, List.cons_append, List.nil_append]
  rw [e170_7]
  by_cases b62 : nmP' t (tks t n k) 62
  · rw [b2_yes b62, if_pos n10, e170_30]
    exact N106 h b62 (by rw [st_62]; decide) (g0 := 108) (g1 := 101) (by rw [st_62]; rfl) (by rw [st_62]; rfl) (by decide) (by rw [oc_62 b62]; decide)
  · rw [b2_no b62, if_neg (fun z => z y00), T145 (j := 63) h (by decide)]
    simp only [Option.bind_some, Option.toList_some, Option.toList_none, List.cons_append, List.nil_append]
    rw [e170_17]
    by_cases b63 : nmP' t (tks t n k) 63
    · rw [b2_yes b63, if_pos n10, e170_30]
      exact N106 h b63 (by rw [st_63]; decide) (g0 := 98) (g1 := 101) (by rw [st_63]; rfl) (by rw [st_63]; rfl) (by decide) (by rw [oc_63 b63]; decide)
    · rw [b2_no b63, if_neg (fun z => z y00), T145 (j := 64) h (by decide)]
      simp only [Option.bind_some, Option.toList_some, Option.toList_none, List.cons_append, List.nil_append]
      rw [e170_27]
      by_cases b64 : nmP' t (tks t n k) 64
      · rw [b2_yes b64, if_neg n10, e170_30]
        exact N106 h b64 (by rw [st_64]; decide) (g0 := 98) (g1 := 115) (by rw [st_64]; rfl) (by rw [st_64]; rfl) (by decide) (by rw [oc_64 b64]; decide)
      · rw [b2_no b64, if_pos y00, T145 (j := 65) h (by decide)]
        simp only [Option.bind_some, Option.toList_some, Option.toList_none, List.cons_append, List.nil_append]
        rw [e170_42]
        by_cases b65 : nmP' t (tks t n k) 65
        · rw [b2_yes b65, if_pos n10, e170_65]
          exact N106 h b65 (by rw [st_65]; decide) (g0 := 108) (g1 := 101) (by rw [st_65]; rfl) (by rw [st_65]; rfl) (by decide) (by rw [oc_65 b65]; decide)
        · rw [b2_no b65, if_neg (fun z => z y00), T145 (j := 66) h (by decide)]
          simp only [Option.bind_some, Option.toList_some, Option.toList_none, List.cons_append, List.nil_append]
          rw [e170_52]
          by_cases b66 : nmP' t (tks t n k) 66
          · rw [b2_yes b66, if_pos n10, e170_65]
            exact N106 h b66 (by rw [st_66]; decide) (g0 := 98) (g1 := 101) (by rw [st_66]; rfl) (by rw [st_66]; rfl) (by decide) (by rw [oc_66 b66]; decide)
          · rw [b2_no b66, if_neg (fun z => z y00), T145 (j := 67) h (by decide)]
            simp only [Option.bind_some, Option.toList_some, Option.toList_none, List.cons_append, List.nil_append]
            rw [e170_62]
            by_cases b67 : nmP' t (tks t n k) 67
            · rw [b2_yes b67, if_neg n10, e170_65]
              exact N106 h b67 (by rw [st_67]; decide) (g0 := 98) (g1 := 115) (by rw [st_67]; rfl) (by rw [st_67]; rfl) (by decide) (by rw [oc_67 b67]; decide)
            · rw [b2_no b67, if_pos y00, T145 (j := 68) h (by decide)]
              simp only [Option.bind_some, Option.toList_some, Option.toList_none, List.cons_append, List.nil_append]
              rw [e170_77]
              by_cases b68 : nmP' t (tks t n k) 68
              · rw [b2_yes b68, if_pos n10, e170_100]
                exact N106 h b68 (by rw [st_68]; decide) (g0 := 108) (g1 := 101) (by rw [st_68]; rfl) (by rw [st_68]; rfl) (by decide) (by rw [oc_68 b68]; decide)
              · rw [b2_no b68, if_neg (fun z => z y00), T145 (j := 69) h (by decide)]
                simp only [Option.bind_some, Option.toList_some, Option.toList_none, List.cons_append, List.nil_append]
                rw [e170_87]
                by_cases b69 : nmP' t (tks t n k) 69
                · rw [b2_yes b69, if_pos n10, e170_100]
                  exact N106 h b69 (by rw [st_69]; decide) (g0 := 98) (g1 := 101) (by rw [st_69]; rfl) (by rw [st_69]; rfl) (by decide) (by rw [oc_69 b69]; decide)
                · rw [b2_no b69, if_neg (fun z => z y00), T145 (j := 70) h (by decide)]
                  simp only [Option.bind_some, Option.toList_some, Option.toList_none, List.cons_append, List.nil_append]
                  rw [e170_97]
                  by_cases b70 : nmP' t (tks t n k) 70
                  · rw [b2_yes b70, if_neg n10, e170_100]
                    exact N106 h b70 (by rw [st_70]; decide) (g0 := 98) (g1 := 115) (by rw [st_70]; rfl) (by rw [st_70]; rfl) (by decide) (by rw [oc_70 b70]; decide)
                  · rw [b2_no b70, if_pos y00, e170_106, if_neg (fun z => z y00)]
                    unfold orC orT
                    rw [if_neg b62, if_neg b65, if_neg b68, if_neg b63, if_neg b66, if_neg b69, if_neg b64, if_neg b67, if_neg b70]
                    rfl
/-- sizes: those of loads with sign, too -/
def szB (x z : Int) : Prop := z = 112 ∨ z = 104 ∨ z = 96 ∨ z = 120 ∨ (¬ x = 0 ∧ (z = 144 ∨ z = 136 ∨ z = 128))
theorem pSz_v : pSz t T x = -1 ∨ szB x (pSz t T x) := by
  unfold pSz szB
  split
  · rename_i h
    exact Or.inr (Or.inr (Or.inr (Or.inr (Or.inr ⟨h.1, Or.inl rfl⟩))))
  · split
    · rename_i h
      exact Or.inr (Or.inr (Or.inr (Or.inr (Or.inr ⟨h.1, Or.inr (Or.inl rfl)⟩))))
    · split
      · rename_i h
        exact Or.inr (Or.inr (Or.inr (Or.inr (Or.inr ⟨h.1, Or.inr (Or.inr rfl)⟩))))
      · split
        · exact Or.inr (Or.inl rfl)
        · split
          · exact Or.inr (Or.inr (Or.inl rfl))
          · split
            · exact Or.inr (Or.inr (Or.inr (Or.inl rfl)))
            · split
              · exact Or.inr (Or.inr (Or.inr (Or.inr (Or.inl rfl))))
              · exact Or.inl rfl
/-- behind the size -/
theorem P62 (h : cG σ t n m j) (hw : gL σ 18 14 = W) : okc (RR (lkB tb173) (B173_62, [some (mR (some 18)), some (mI a), some (mI x), some (mI z), none, none], [mI (b2 (sgn (tks t n) 42 j))], if sgn (tks t n) 42 j then sI σ 18 8 ((j + 1 : Nat) : Int) else sI σ 18 9 (tB (tks t n j) : Int))) (some (mI (rVc (pPt2 t (tks t n) z j)))) (fun τ => oR (pPt2 t (tks t n) z j) (cE σ τ) (fun q => cqA τ σ ∧ gI τ 18 8 = (q.2 : Int) ∧ q.2 ≤ m ∧ gL τ 18 14 = (W ||| iL (iShl q.1.2.1 a)) ||| lShl (q.1.2.2 &&& iL 65535) 16 ∧ q.1.1 = z ∧ 0 ≤ q.1.2.1 ∧ q.1.2.1 ≤ 10)) := by
  unfold pPt2
  rw [e173_62]
  by_cases c1 : sgn (tks t n) 42 j
  · have l1 := cG_lt h (by rw [c1.1]; decide)
    have h1 : cG (sI σ 18 8 ((j + 1 : Nat) : Int)) t n m (j + 1) := cG_8 h l1
    have f1 : cqA (sI σ 18 8 ((j + 1 : Nat) : Int)) σ := cqA_8
    have w1 : gL (sI σ 18 8 ((j + 1 : Nat) : Int)) 18 14 = W := hw
    rw [b2_yes c1, if_neg n10, if_pos c1, if_neg (show ¬ ¬ sgn (tks t n) 42 j from fun z => z c1)]
    generalize sI σ 18 8 ((j + 1 : Nat) : Int) = ρ1 at *
    rw [T148 (s := 41) h1 (by decide) (by decide)]
    simp only [Option.bind_some, Option.toList_some, Option.toList_none, List.cons_append, List.nil_append]
    rw [e173_71]
    by_cases c2 : sgn (tks t n) 41 (j + 1)
    · have l2 := cG_lt h1 (by rw [c2.1]; decide)
      have h2 : cG (sI ρ1 18 8 ((j + 1 + 1 : Nat) : Int)) t n m (j + 2) := cG_8 h1 l2
      have f2 : cqA (sI ρ1 18 8 ((j + 1 + 1 : Nat) : Int)) σ := cqA_t cqA_8 f1
      have w2 : gL (sI ρ1 18 8 ((j + 1 + 1 : Nat) : Int)) 18 14 = W := w1
      rw [b2_yes c2, if_neg n10, if_pos c2, if_neg (show ¬ ¬ sgn (tks t n) 41 (j + 1) from fun z => z c2)]
      generalize sI ρ1 18 8 ((j + 1 + 1 : Nat) : Int) = ρ2 at *
      rw [T148 (s := 40) h2 (by decide) (by decide)]
      simp only [Option.bind_some, Option.toList_some, Option.toList_none, List.cons_append, List.nil_append]
      rw [e173_80]
      by_cases c3 : sgn (tks t n) 40 (j + 2)
      · have l3 := cG_lt h2 (by rw [c3.1]; decide)
        have h3 : cG (sI ρ2 18 8 ((j + 2 + 1 : Nat) : Int)) t n m (j + 3) := cG_8 h2 l3
        have f3 : cqA (sI ρ2 18 8 ((j + 2 + 1 : Nat) : Int)) σ := cqA_t cqA_8 f2
        have w3 : gL (sI ρ2 18 8 ((j + 2 + 1 : Nat) : Int)) 18 14 = W := w2
        rw [b2_yes c3, if_pos n10, if_pos c3, if_neg (show ¬ ¬ sgn (tks t n) 40 (j + 2) from fun z => z c3)]
        generalize sI ρ2 18 8 ((j + 2 + 1 : Nat) : Int) = ρ3 at *
        clear h1 h2 f1 f2 w1 w2
        rw [T149 h3]
        simp only [Option.bind_some, Option.toList_some, Option.toList_none, List.cons_append, List.nil_append]
        rw [e173_89]
        unfold pRgt
        have rr := rgR_r (t := t) (X := tks t n (j + 3))
        have rk := rgR_n (t := t) (X := tks t n (j + 3))
        obtain ⟨R, hR⟩ : ∃ R, R = rgR t (tks t n (j + 3)) := ⟨_, rfl⟩
        rw [← hR] at rr rk ⊢
        have s104 : RR (lkB tb173) (B173_104, [some (mR (some 18)), some (mI a), some (mI x), some (mI z), some (mI R), none], [], ρ3) = some (some (mI 0), sI ρ3 18 9 (tB (tks t n (j + 3)) : Int)) := by
          rw [e173_104, T144 h3]
          simp only [Option.bind_some, Option.toList_some, Option.toList_none, List.cons_append, List.nil_append]
          rw [e173_108, if_pos bl0]
        by_cases c4 : R < 0 ∨ ¬ (if R < 16 then (0 : Int) else 1) = 0
        · rw [if_pos c4, s104]
          have e : (if R = -1 then some (some (mI 0), sI ρ3 18 9 (tB (tks t n (j + 3)) : Int)) else if R < 16 then (Option.bind (MM 147 [mR (some 18), mI 45] (sI (sL ρ3 18 14 (gL ρ3 18 14 ||| iL (iShl R a))) 18 8 (w32 (gI (sL ρ3 18 14 (gL ρ3 18 14 ||| iL (iShl R a))) 18 8 + 1)))) fun q => RR (lkB tb173) (B173_139, [some (mR (some 18)), some (mI a), some (mI x), some (mI z), some (mI R), none], q.1.toList ++ [], q.2)) else some (some (mI 0), sI ρ3 18 9 (tB (tks t n (j + 3)) : Int))) = some (some (mI 0), sI ρ3 18 9 (tB (tks t n (j + 3)) : Int)) := by
            by_cases a1 : R = -1
            · rw [if_pos a1]
            · rw [if_neg a1, if_neg (show ¬ R < 16 from fun b => c4.elim (fun z => by omega) (fun z => z (if_pos b)))]
          rw [e]
          exact okc_s (cE_m h3 (ccq_A f3))
        · have r16 : R < 16 := Classical.byContradiction fun b => c4 (Or.inr fun z => by rw [if_neg b] at z; cases z)
          have r0 : 0 ≤ R := by omega
          have k2 := rk (by omega)
          have l4 := cG_lt h3 (by rw [k2]; decide)
          have q4 := cG_m h3
          have h4 : cG (sI (sL ρ3 18 14 (W ||| iL (iShl R a))) 18 8 ((j + 3 + 1 : Nat) : Int)) t n m (j + 4) := cG_8 (cG_L h3) l4
          have f4 : cqA (sI (sL ρ3 18 14 (W ||| iL (iShl R a))) 18 8 ((j + 3 + 1 : Nat) : Int)) σ := cqA_t cqA_8 (cqA_t cqA_L f3)
          have w4 : gL (sI (sL ρ3 18 14 (W ||| iL (iShl R a))) 18 8 ((j + 3 + 1 : Nat) : Int)) 18 14 = W ||| iL (iShl R a) := by rw [gL_sI, h14]
          rw [if_neg c4, if_neg (show ¬ R = -1 by omega), if_pos r16, and15' (show 0 ≤ R ∧ R ≤ 10 by omega), w3, gI_sL, h3.2.1, w32_s1 (show j + 3 < 100000 by omega)]
          generalize sI (sL ρ3 18 14 (W ||| iL (iShl R a))) 18 8 ((j + 3 + 1 : Nat) : Int) = ρ4 at *
          clear s104 h3 f3 w3
          have main : ∀ M : Int, M = mnS (tks t n) (j + 4) → (sgn (tks t n) 45 (j + 4) ∨ sgn (tks t n) 43 (j + 4)) → okc (RR (lkB tb173) (B173_160, [some (mR (some 18)), some (mI a), some (mI x), some (mI z), some (mI R), some (mI M)], [], ρ4)) (some (mI (rVc (bS (pNum (tks t n) (if mnS (tks t n) (j + 4) = 0 then iL 32767 else iL 32768) (j + 5)) fun _ => if ¬ sgn (tks t n) 41 (j + 6) then .inl (tB (tks t n (j + 6)) : Int) else .inr ((z, R, sgV (mnS (tks t n) (j + 4)) (tV (tks t n (j + 5)))), j + 7))))) (fun τ => oR (bS (pNum (tks t n) (if mnS (tks t n) (j + 4) = 0 then iL 32767 else iL 32768) (j + 5)) fun _ => if ¬ sgn (tks t n) 41 (j + 6) then .inl (tB (tks t n (j + 6)) : Int) else .inr ((z, R, sgV (mnS (tks t n) (j + 4)) (tV (tks t n (j + 5)))), j + 7)) (cE σ τ) (fun q => cqA τ σ ∧ gI τ 18 8 = (q.2 : Int) ∧ q.2 ≤ m ∧ gL τ 18 14 = (W ||| iL (iShl q.1.2.1 a)) ||| lShl (q.1.2.2 &&& iL 65535) 16 ∧ q.1.1 = z ∧ 0 ≤ q.1.2.1 ∧ q.1.2.1 ≤ 10)) := fun M hM cs => by
            have l5 := cG_lt h4 (by rcases cs with u | u <;> rw [u.1] <;> decide)
            have h5 : cG (sI ρ4 18 8 ((j + 4 + 1 : Nat) : Int)) t n m (j + 5) := cG_8 h4 l5
            have f5 : cqA (sI ρ4 18 8 ((j + 4 + 1 : Nat) : Int)) σ := cqA_t cqA_8 f4
            have w5 : gL (sI ρ4 18 8 ((j + 4 + 1 : Nat) : Int)) 18 14 = W ||| iL (iShl R a) := w4
            have q5 := cG_m h4
            have p5 := cG_m h5
            rw [← hM]
            obtain ⟨Y, hY⟩ : ∃ Y, Y = if M = 0 then iL 32767 else iL 32768 := ⟨_, rfl⟩
            rw [← hY]
            obtain ⟨G, hG⟩ : ∃ G, G = gL (sI ρ4 18 8 ((j + 4 + 1 : Nat) : Int)) 23 (j + 4 + 1) := ⟨_, rfl⟩
            have gv : tK (tks t n (j + 5)) = 3 → G = tV (tks t n (j + 5)) := fun k3 => hG.trans ((cG_tk h5 h5.2.2.1).2.2.2.1 k3)
            have s228 : RR (lkB tb173) (B173_160, [some (mR (some 18)), some (mI a), some (mI x), some (mI z), some (mI R), some (mI M)], [], ρ4) = RR (lkB tb173) (B173_228, [some (mR (some 18)), some (mI a), some (mI x), some (mI z), some (mI R), some (mI M)], [mL Y, mR (some 18)], sL (sI ρ4 18 8 ((j + 4 + 1 : Nat) : Int)) 18 14 ((W ||| iL (iShl R a)) ||| lShl (sgV M G &&& iL 65535) 16)) := by
              rw [e173_160, h4.2.1, w32_s1 (show j + 4 < 100000 by omega), h8, Int.toNat_natCast, ← hG, if_pos (g23' (show j + 4 + 1 < 4001 by omega)), if_pos (g23' (show j + 4 + 1 < 4001 by omega)), w5, hY]
              unfold sgV
              by_cases cm : M = 0
              · rw [if_pos cm, if_pos cm, if_pos cm, e173_202, if_pos cm]
              · rw [if_neg cm, if_neg cm, if_neg cm, e173_202, if_neg cm]
            rw [s228]
            clear s228 hG
            generalize sI ρ4 18 8 ((j + 4 + 1 : Nat) : Int) = ρ5 at *
            rw [e173_228, T157 (cG_L h5)]
            simp only [Option.bind_some, Option.toList_some, Option.toList_none, List.cons_append, List.nil_append]
            cases hp : pNum (tks t n) Y (j + 5) with
            | inl e =>
              have he : e = (tB (tks t n (j + 5)) : Int) := by
                unfold pNum at hp
                split at hp
                · cases hp
                · exact (Sum.inl.inj hp).symm
              show okc (RR (lkB tb173) (B173_231, [some (mR (some 18)), some (mI a), some (mI x), some (mI z), some (mI R), some (mI M)], [mI 0], sI (sL ρ5 18 14 ((W ||| iL (iShl R a)) ||| lShl (sgV M G &&& iL 65535) 16)) 18 9 e)) (some (mI 0)) _
              rw [e173_231, if_pos y00, e173_247]
              exact okc_s ⟨ccq_t (ccq_I (by omega)) (ccq_t (ccq_L (by omega)) (ccq_A f5)), c9, by omega⟩
            | inr j2 =>
              have ej : j2 = j + 6 := mo_num hp
              subst ej
              have k3 : tK (tks t n (j + 5)) = 3 := by
                unfold pNum at hp
                split at hp
                · rename_i z; exact z.1
                · cases hp
              have l6 := cG_lt h5 (by rw [k3]; decide)
              rw [gv k3]
              have h6 : cG (sI (sL ρ5 18 14 ((W ||| iL (iShl R a)) ||| lShl (sgV M (tV (tks t n (j + 5))) &&& iL 65535) 16)) 18 8 ((j + 6 : Nat) : Int)) t n m (j + 6) := cG_8 (cG_L h5) l6
              have f6 : cqA (sI (sL ρ5 18 14 ((W ||| iL (iShl R a)) ||| lShl (sgV M (tV (tks t n (j + 5))) &&& iL 65535) 16)) 18 8 ((j + 6 : Nat) : Int)) σ := cqA_t cqA_8 (cqA_t cqA_L f5)
              have w6 : gL (sI (sL ρ5 18 14 ((W ||| iL (iShl R a)) ||| lShl (sgV M (tV (tks t n (j + 5))) &&& iL 65535) 16)) 18 8 ((j + 6 : Nat) : Int)) 18 14 = (W ||| iL (iShl R a)) ||| lShl (sgV M (tV (tks t n (j + 5))) &&& iL 65535) 16 := by rw [gL_sI, h14]
              show okc (RR (lkB tb173) (B173_231, [some (mR (some 18)), some (mI a), some (mI x), some (mI z), some (mI R), some (mI M)], [mI 1], sI (sL ρ5 18 14 ((W ||| iL (iShl R a)) ||| lShl (sgV M (tV (tks t n (j + 5))) &&& iL 65535) 16)) 18 8 ((j + 6 : Nat) : Int))) (some (mI (rVc (if ¬ sgn (tks t n) 41 (j + 6) then .inl (tB (tks t n (j + 6)) : Int) else .inr ((z, R, sgV M (tV (tks t n (j + 5)))), j + 7))))) (fun τ => oR (if ¬ sgn (tks t n) 41 (j + 6) then .inl (tB (tks t n (j + 6)) : Int) else .inr ((z, R, sgV M (tV (tks t n (j + 5)))), j + 7)) _ _)
              generalize sI (sL ρ5 18 14 ((W ||| iL (iShl R a)) ||| lShl (sgV M (tV (tks t n (j + 5))) &&& iL 65535) 16)) 18 8 ((j + 6 : Nat) : Int) = ρ6 at *
              rw [e173_231, if_neg n10, T148 (s := 41) h6 (by decide) (by decide)]
              simp only [Option.bind_some, Option.toList_some, Option.toList_none, List.cons_append, List.nil_append]
              rw [e173_240]
              by_cases c6 : sgn (tks t n) 41 (j + 6)
              · have l7 := cG_lt h6 (by rw [c6.1]; decide)
                rw [b2_yes c6, if_neg n10, if_pos c6, if_neg (show ¬ ¬ sgn (tks t n) 41 (j + 6) from fun z => z c6)]
                exact okc_s ⟨cqA_t cqA_8 f6, h8, l7, w6, rfl, r0, by show R ≤ 10; omega⟩
              · rw [b2_no c6, if_pos y00, if_neg c6, if_pos (show ¬ sgn (tks t n) 41 (j + 6) from c6), e173_247]
                exact okc_s (cE_m h6 (ccq_A f6))
          rw [bS_r, T147 (s := 45) h4 (by decide) (by decide)]
          simp only [Option.bind_some, Option.toList_some, Option.toList_none, List.cons_append, List.nil_append]
          rw [e173_139]
          by_cases cs : sgn (tks t n) 45 (j + 4)
          · rw [b2_yes cs, if_pos n10, if_neg (show ¬ ¬ (sgn (tks t n) 45 (j + 4) ∨ sgn (tks t n) 43 (j + 4)) from fun z => z (Or.inl cs))]
            exact main 1 (mn_1 cs).1.symm (Or.inl cs)
          · rw [b2_no cs, if_neg (fun z => z y00), T147 (s := 43) h4 (by decide) (by decide)]
            simp only [Option.bind_some, Option.toList_some, Option.toList_none, List.cons_append, List.nil_append]
            rw [e173_152]
            by_cases cp : sgn (tks t n) 43 (j + 4)
            · rw [b2_yes cp, if_pos n10, if_neg (show ¬ ¬ (sgn (tks t n) 45 (j + 4) ∨ sgn (tks t n) 43 (j + 4)) from fun z => z (Or.inr cp))]
              exact main 0 (mn_0 cs).1.symm (Or.inr cp)
            · rw [b2_no cp, if_neg (fun z => z y00), if_pos (show ¬ (sgn (tks t n) 45 (j + 4) ∨ sgn (tks t n) 43 (j + 4)) from fun z => z.elim cs cp), T144 h4]
              simp only [Option.bind_some, Option.toList_some, Option.toList_none, List.cons_append, List.nil_append]
              rw [e173_159, if_pos bl0]
              exact okc_s (cE_m h4 (ccq_A f4))
      · rw [b2_no c3, if_neg (fun z => z y00), if_neg c3, if_pos (show ¬ sgn (tks t n) 40 (j + 2) from c3)]
        exact okc_s (cE_m h2 (ccq_A f2))
    · rw [b2_no c2, if_pos y00, if_neg c2, if_pos (show ¬ sgn (tks t n) 41 (j + 1) from c2)]
      exact okc_s (cE_m h1 (ccq_A f1))
  · rw [b2_no c1, if_pos y00, if_neg c1, if_pos (show ¬ sgn (tks t n) 42 j from c1)]
    exact okc_s (cE_m h (ccq_r _))
/-- PTR -/
theorem T173 (h : cG σ t n m k) (hw : gL σ 18 14 = W) : okc (MM 173 [mR (some 18), mI a, mI x] σ) (some (mI (rVc (pPtr t (tks t n) x k)))) (fun τ => oR (pPtr t (tks t n) x k) (cE σ τ) (fun q => cqA τ σ ∧ gI τ 18 8 = (q.2 : Int) ∧ q.2 ≤ m ∧ gL τ 18 14 = (W ||| iL q.1.1 ||| iL (iShl q.1.2.1 a)) ||| lShl (q.1.2.2 &&& iL 65535) 16 ∧ szB x q.1.1 ∧ 0 ≤ q.1.2.1 ∧ q.1.2.1 ≤ 10)) := by
  unfold pPtr
  rw [M173, e173_0, T148 (s := 42) h (by decide) (by decide)]
  simp only [Option.bind_some, Option.toList_some, Option.toList_none, List.cons_append, List.nil_append]
  rw [e173_6]
  by_cases c1 : sgn (tks t n) 42 k
  · have l1 := cG_lt h (by rw [c1.1]; decide)
    have h1 : cG (sI σ 18 8 ((k + 1 : Nat) : Int)) t n m (k + 1) := cG_8 h l1
    have f1 : cqA (sI σ 18 8 ((k + 1 : Nat) : Int)) σ := cqA_8
    have w1 : gL (sI σ 18 8 ((k + 1 : Nat) : Int)) 18 14 = W := hw
    rw [b2_yes c1, if_neg n10, if_pos c1, if_neg (show ¬ ¬ sgn (tks t n) 42 k from fun z => z c1)]
    generalize sI σ 18 8 ((k + 1 : Nat) : Int) = ρ1 at *
    rw [T148 (s := 40) h1 (by decide) (by decide)]
    simp only [Option.bind_some, Option.toList_some, Option.toList_none, List.cons_append, List.nil_append]
    rw [e173_15]
    by_cases c2 : sgn (tks t n) 40 (k + 1)
    · have l2 := cG_lt h1 (by rw [c2.1]; decide)
      have h2 : cG (sI ρ1 18 8 ((k + 1 + 1 : Nat) : Int)) t n m (k + 2) := cG_8 h1 l2
      have f2 : cqA (sI ρ1 18 8 ((k + 1 + 1 : Nat) : Int)) σ := cqA_t cqA_8 f1
      have w2 : gL (sI ρ1 18 8 ((k + 1 + 1 : Nat) : Int)) 18 14 = W := w1
      rw [b2_yes c2, if_pos n10, if_pos c2, if_neg (show ¬ ¬ sgn (tks t n) 40 (k + 1) from fun z => z c2)]
      generalize sI ρ1 18 8 ((k + 1 + 1 : Nat) : Int) = ρ2 at *
      have q2 := cG_m h2
      rw [T174 h2]
      simp only [Option.bind_some, Option.toList_some, Option.toList_none, List.cons_append, List.nil_append]
      have zv := pSz_v (t := t) (T := tks t n (k + 2)) (x := x)
      have zk : ¬ pSz t (tks t n (k + 2)) x < 0 → tK (tks t n (k + 2)) = 2 := fun zz => Classical.byContradiction fun cc => zz (by
        have nn : ∀ j, ¬ nmP' t (tks t n (k + 2)) j := fun j z => cc (nm_k z)
        unfold pSz
        rw [if_neg (show ¬ (¬ x = 0 ∧ nmP' t (tks t n (k + 2)) 72) from fun z => nn 72 z.2), if_neg (show ¬ (¬ x = 0 ∧ nmP' t (tks t n (k + 2)) 73) from fun z => nn 73 z.2), if_neg (show ¬ (¬ x = 0 ∧ nmP' t (tks t n (k + 2)) 74) from fun z => nn 74 z.2), if_neg (nn 75), if_neg (nn 76), if_neg (nn 77), if_neg (nn 78)]
        decide)
      generalize pSz t (tks t n (k + 2)) x = Z at *
      rw [e173_25]
      by_cases cz : Z < 0
      · rw [if_pos cz, if_neg (show ¬ 0 ≤ Z by omega), T144 h2]
        simp only [Option.bind_some, Option.toList_some, Option.toList_none, List.cons_append, List.nil_append]
        rw [e173_34, if_pos bl0]
        exact okc_s (cE_m h2 (ccq_A f2))
      · have l3 := cG_lt h2 (by rw [zk cz]; decide)
        rw [if_neg cz, if_pos (show 0 ≤ Z by omega), w2, gI_sL, h2.2.1, w32_s1 (show k + 2 < 100000 by omega)]
        have h3 : cG (sI (sL ρ2 18 14 (W ||| iL Z)) 18 8 ((k + 2 + 1 : Nat) : Int)) t n m (k + 3) := cG_8 (cG_L h2) l3
        have f3 : cqA (sI (sL ρ2 18 14 (W ||| iL Z)) 18 8 ((k + 2 + 1 : Nat) : Int)) σ := cqA_t cqA_8 (cqA_t cqA_L f2)
        have w3 : gL (sI (sL ρ2 18 14 (W ||| iL Z)) 18 8 ((k + 2 + 1 : Nat) : Int)) 18 14 = W ||| iL Z := by rw [gL_sI, h14]
        generalize sI (sL ρ2 18 14 (W ||| iL Z)) 18 8 ((k + 2 + 1 : Nat) : Int) = ρ3 at *
        rw [T148 (s := 42) h3 (by decide) (by decide)]
        simp only [Option.bind_some, Option.toList_some, Option.toList_none, List.cons_append, List.nil_append]
        refine okc_m (P62 (a := a) (x := x) (z := Z) h3 w3) fun τ p => ?_
        cases hq : pPt2 t (tks t n) Z (k + 3) with
        | inl e =>
          rw [hq] at p
          exact ⟨ccq_t p.1 (ccq_A f3), p.2⟩
        | inr q =>
          rw [hq] at p
          obtain ⟨p1, p2, p3, p4, p5, p6⟩ := p
          exact ⟨cqA_t p1 f3, p2, p3, by rw [p4, p5], by rw [p5]; exact zv.resolve_left (by omega), p6⟩
    · rw [b2_no c2, if_neg (fun z => z y00), if_neg c2, if_pos (show ¬ sgn (tks t n) 40 (k + 1) from c2)]
      exact okc_s (cE_m h1 (ccq_A f1))
  · rw [b2_no c1, if_pos y00, if_neg c1, if_pos (show ¬ sgn (tks t n) 42 k from c1)]
    exact okc_s (cE_m h (ccq_r _))
end CPT
