/-! ===== the class's numbers, signs; its tokens, all ===== -/
section CLY
variable {t : Nat → Int} {n i j k m : Nat} {σ τ ρ υ : MS} {c d e o X3 : Int} {v : B64} {q : B64 × Int} {T : TK} {x : Bool}
theorem L140e (h7 : gI σ 18 7 = (m : Int)) (hm : m < 4001) : okc (RR (lkB tb140) (B140_203, [some (mR (some 18)), some (mI (j : Int)), some (mI (n : Int)), some (mI X3), some (mL q.1), none, some (mI q.2), some (mI (i : Int)), none, none, none], [], σ)) none (adP σ m (3, j, i, q.1, q.2)) := by
  have fin : okc (RR (lkB tb140) (B140_214, [some (mR (some 18)), some (mI (j : Int)), some (mI (n : Int)), some (mI X3), some (mL q.1), none, some (mI q.2), some (mI (i : Int)), none, none, none], [mI (kC (3, j, i, q.1, q.2)), mR (some 18)], σ)) none (adP σ m (3, j, i, q.1, q.2)) := by
    rw [e140_214]
    refine okc_b (ad_P (T := (3, j, i, q.1, q.2)) (v := q.1) h7 hm (fun _ => rfl) (fun z => by cases z)) fun τ p => ?_
    show okc (RR (lkB tb140) (B140_222, [some (mR (some 18)), some (mI (j : Int)), some (mI (n : Int)), some (mI X3), some (mL q.1), none, some (mI q.2), some (mI (i : Int)), none, none, none], [], τ)) none _
    rw [e140_222]
    exact okc_s p
  have hk : kC (3, j, i, q.1, q.2) = if q.2 = 0 then 2 else 3 := rfl
  rw [e140_203]
  by_cases c1 : q.2 = 0
  · rw [if_pos c1]
    rw [hk, if_pos c1] at fin
    exact fin
  · rw [if_neg c1]
    rw [hk, if_neg c1] at fin
    exact fin
theorem tp_c (h : cTx σ t n) (hi : i < n) : (Option.isSome (gR σ 18 2) = true ∧ ab σ 1 (Option.getD (gR σ 18 2) 0) (i : Int)) := by
  have := h.2.1
  rw [h.1]
  exact g1' (by omega)
theorem tp_g (h : cTx σ t n) : gI σ (Option.getD (gR σ 18 2) 0) i = t i := by
  rw [h.1]
  exact h.2.2.1 i
theorem L140 (h : cTx σ t n) (h7 : gI σ 18 7 = (m : Int)) (hm : m < 4001) (hX : (X3 = 0) = (x = false)) : ∀ (f i : Nat) (q : B64 × Int), n - i ≤ f → i ≤ n → (q.2 = 0 ∨ q.2 = 1) → okc (RR (lkB tb140) (B140_70, [some (mR (some 18)), some (mI (j : Int)), some (mI (n : Int)), some (mI X3), some (mL q.1), none, some (mI q.2), some (mI (i : Int)), none, none, none], [], σ)) none (adP σ m (3, j, (nuL t n x (n - i) i q).1, (nuL t n x (n - i) i q).2.1, (nuL t n x (n - i) i q).2.2)) := by
  have n4 := h.2.1
  intro f
  induction f with
  | zero =>
    intro i q hf hi hq
    rw [show n - i = 0 by omega, e140_70, if_pos (by omega)]
    exact L140e h7 hm
  | succ f ih =>
    intro i q hf hi hq
    rw [e140_70]
    by_cases ci : i < n
    · have hb := hexV_b (c := pk t n i)
      have ti := h.2.2.2 i
      have p1 : pk t n i = t i % 256 := pk_1 ci
      have hx1 : hexV (t i) = hexV (pk t n i) := by rw [p1, sg_hx ti]
      have dg1 : isDg (t i) = isDg (pk t n i) := by rw [p1, sg_dg ti]
      have end_ : ¬ dgP x (pk t n i) → okc (RR (lkB tb140) (B140_203, [some (mR (some 18)), some (mI (j : Int)), some (mI (n : Int)), some (mI X3), some (mL q.1), none, some (mI q.2), some (mI (i : Int)), none, none, none], [], σ)) none (adP σ m (3, j, (nuL t n x (n - i) i q).1, (nuL t n x (n - i) i q).2.1, (nuL t n x (n - i) i q).2.2)) := fun z => by
        have e : nuL t n x (n - i) i q = (i, q) := by
          cases n - i with
          | zero => rfl
          | succ m => exact if_neg z
        rw [e]
        exact L140e h7 hm
      have go : dgP x (pk t n i) → okc (RR (lkB tb140) (B140_109, [some (mR (some 18)), some (mI (j : Int)), some (mI (n : Int)), some (mI X3), some (mL q.1), none, some (mI q.2), some (mI (i : Int)), none, none, none], [], σ)) none (adP σ m (3, j, (nuL t n x (n - i) i q).1, (nuL t n x (n - i) i q).2.1, (nuL t n x (n - i) i q).2.2)) := fun z => by
        have un : nuL t n x (n - i) i q = nuL t n x (n - (i + 1)) (i + 1) (dgS x (hexV (pk t n i)) q) := by
          rw [show n - i = (n - (i + 1)) + 1 by omega]
          exact if_pos z
        have g174 : ∀ (y : Int) (l : B64), y = (dgS x (hexV (pk t n i)) q).2 → okc (RR (lkB tb140) (B140_174, [some (mR (some 18)), some (mI (j : Int)), some (mI (n : Int)), some (mI X3), some (mL q.1), none, some (mI q.2), some (mI (i : Int)), some (mI (hexV (pk t n i))), some (mL l), none], [mI y], σ)) none (adP σ m (3, j, (nuL t n x (n - i) i q).1, (nuL t n x (n - i) i q).2.1, (nuL t n x (n - i) i q).2.2)) := fun y l hy => by
          have i2 := ih (i + 1) (dgS x (hexV (pk t n i)) q) (by omega) (by omega) dgS_01
          rw [un, e140_174, e140_189, e140_189, w32_s1 (by omega), hy]
          have v1 : q.1 * iL (if x = true then 16 else 10) + iL (hexV (pk t n i)) = (dgS x (hexV (pk t n i)) q).1 := rfl
          by_cases c0 : X3 = 0
          · have xf : x = false := hX ▸ c0
            rw [if_neg (show ¬ x = true by rw [xf]; decide)] at v1
            rw [if_pos c0, v1]
            exact okc_q (by repeat (first | exact lq_nil | refine lq_cons (Or.inr rfl) ?_ | refine lq_cons (Or.inl rfl) ?_)) i2
          · have xt : x = true := by
              cases x with
              | true => rfl
              | false => exact absurd (hX ▸ rfl : X3 = 0) c0
            rw [if_pos xt] at v1
            rw [if_neg c0, v1]
            exact okc_q (by repeat (first | exact lq_nil | refine lq_cons (Or.inr rfl) ?_ | refine lq_cons (Or.inl rfl) ?_)) i2
        have d2 : (dgS x (hexV (pk t n i)) q).2 = if q.2 = 1 then 1 else if x = true then (if iL 1152921504606846975 < q.1 then 1 else 0) else (if iL 1844674407370955161 < q.1 ∨ (q.1 = iL 1844674407370955161 ∧ 5 < hexV (pk t n i)) then 1 else 0) := rfl
        have z2 : ¬ q.2 = 0 → q.2 = 1 := fun z => hq.elim (fun w => absurd w z) id
        rw [e140_109, if_pos (tp_c h ci), Int.toNat_natCast, tp_g h, T139 (by omega), hx1]
        simp only [Option.bind_some, Option.toList_some, Option.toList_none, List.cons_append, List.nil_append]
        rw [e140_119]
        by_cases c0 : X3 = 0
        · have xf : x = false := hX ▸ c0
          have xn : ¬ x = true := by rw [xf]; decide
          rw [if_neg xn] at d2
          rw [if_pos c0, e140_134, e140_169]
          by_cases c6 : q.2 = 0
          · have n1 : ¬ q.2 = 1 := by omega
            rw [if_neg n1] at d2
            rw [if_neg (fun z => z c6), T17]
            simp only [Option.bind_some, Option.toList_some, Option.toList_none, List.cons_append, List.nil_append]
            rw [e140_148, e140_169, e140_173]
            simp only [b2_n]
            by_cases c1 : iL 1844674407370955161 < q.1
            · rw [if_pos c1]
              exact g174 _ _ (by rw [d2, if_pos (Or.inl c1)])
            · rw [if_neg c1, if_neg (fun z => z c0)]
              by_cases c2 : q.1 = iL 1844674407370955161
              · rw [if_neg (fun z => z c2)]
                by_cases c3 : hexV (pk t n i) ≤ 5
                · rw [if_pos c3]
                  exact g174 _ _ (by rw [d2, if_neg (fun z => z.elim c1 (fun y => by have := y.2; omega))])
                · rw [if_neg c3]
                  exact g174 _ _ (by rw [d2, if_pos (Or.inr ⟨c2, by omega⟩)])
              · rw [if_pos c2]
                exact g174 _ _ (by rw [d2, if_neg (fun z => z.elim c1 (fun y => c2 y.1))])
          · rw [if_pos (show ¬ q.2 = 0 from c6)]
            exact g174 _ _ (by rw [d2, if_pos (z2 c6)])
        · have xt : x = true := by
            cases x with
            | true => rfl
            | false => exact absurd (hX ▸ rfl : X3 = 0) c0
          rw [if_pos xt] at d2
          rw [if_neg c0, e140_134, e140_169]
          by_cases c6 : q.2 = 0
          · have n1 : ¬ q.2 = 1 := by omega
            rw [if_neg n1] at d2
            rw [if_neg (fun z => z c6), T17]
            simp only [Option.bind_some, Option.toList_some, Option.toList_none, List.cons_append, List.nil_append]
            rw [e140_148, e140_169, e140_173]
            simp only [b2_n]
            by_cases c1 : iL 1152921504606846975 < q.1
            · rw [if_pos c1]
              exact g174 _ _ (by rw [d2, if_pos c1])
            · rw [if_neg c1, if_pos c0]
              exact g174 _ _ (by rw [d2, if_neg c1])
          · rw [if_pos (show ¬ q.2 = 0 from c6)]
            exact g174 _ _ (by rw [d2, if_pos (z2 c6)])
      rw [if_neg (by omega), if_pos (tp_c h ci), if_pos (tp_c h ci), Int.toNat_natCast, tp_g h]
      by_cases c0 : X3 = 0
      · have xf : x = false := hX ▸ c0
        have xn : ¬ x = true := by rw [xf]; decide
        have dd : dgP x (pk t n i) = isDg (pk t n i) := if_neg xn
        rw [if_pos c0, T138]
        simp only [Option.bind_some, Option.toList_some, Option.toList_none, List.cons_append, List.nil_append]
        rw [e140_106]
        by_cases c1 : isDg (t i)
        · rw [b2_yes c1, if_neg (by decide)]
          exact go (by rw [dd, ← dg1]; exact c1)
        · rw [b2_no c1, if_pos rfl]
          exact end_ (by rw [dd, ← dg1]; exact c1)
      · have xt : x = true := by
          cases x with
          | true => rfl
          | false => exact absurd (hX ▸ rfl : X3 = 0) c0
        have dd : dgP x (pk t n i) = (0 ≤ hexV (pk t n i)) := if_pos xt
        rw [if_neg c0, T139 (by omega), hx1]
        simp only [Option.bind_some, Option.toList_some, Option.toList_none, List.cons_append, List.nil_append]
        rw [e140_90]
        by_cases c1 : hexV (pk t n i) < 0
        · rw [if_pos c1]
          exact end_ (by rw [dd]; omega)
        · rw [if_neg c1]
          exact go (by rw [dd]; omega)
    · rw [if_pos (by omega), show n - i = 0 by omega]
      exact L140e h7 hm
theorem T140 (h : cTx σ t n) (hj : j < n) (h7 : gI σ 18 7 = (m : Int)) (hm : m < 4001) : okc (MM 140 [mR (some 18), mI (j : Int), mI (n : Int)] σ) none (adP σ m (3, j, (nuT t n j).1, (nuT t n j).2.1, (nuT t n j).2.2)) := by
  have n4 := h.2.1
  have t0 := h.2.2.2 j
  have t1 := h.2.2.2 (j + 1)
  have t2 := h.2.2.2 (j + 2)
  have w2 : w32 ((j : Int) + 2) = ((j + 2 : Nat) : Int) := w32_a (b := 2) (by omega)
  have w1 : w32 ((j : Int) + 1) = ((j + 1 : Nat) : Int) := w32_s1 (by omega)
  have p0 : pk t n j = t j % 256 := pk_1 hj
  have dec : isHx t n j = false → okc (RR (lkB tb140) (B140_50, [some (mR (some 18)), some (mI (j : Int)), some (mI (n : Int)), none, none, none, none, none, none, none, none], [mI 0], σ)) none (adP σ m (3, j, (nuT t n j).1, (nuT t n j).2.1, (nuT t n j).2.2)) := fun z => by
    have e : nuT t n j = nuL t n false (n - j) j (0, 0) := if_neg (by rw [z]; decide)
    rw [e, e140_50, if_pos rfl, e140_68]
    exact L140 (X3 := 0) h h7 hm (by decide) (n - j) j (0, 0) (Nat.le_refl _) (by omega) (Or.inl rfl)
  have hex : isHx t n j = true → okc (RR (lkB tb140) (B140_50, [some (mR (some 18)), some (mI (j : Int)), some (mI (n : Int)), none, none, none, none, none, none, none, none], [mI 1], σ)) none (adP σ m (3, j, (nuT t n j).1, (nuT t n j).2.1, (nuT t n j).2.2)) := fun z => by
    have e : nuT t n j = nuL t n true (n - (j + 2)) (j + 2) (0, 0) := if_pos z
    have := hx_n z
    rw [e, e140_50, if_neg (by decide), e140_68, w2]
    exact L140 (X3 := 1) h h7 hm (by decide) (n - (j + 2)) (j + 2) (0, 0) (Nat.le_refl _) (by omega) (Or.inl rfl)
  rw [M140, e140_0, w2, w1, e140_49]
  by_cases c2 : j + 2 < n
  · have p1 : pk t n (j + 1) = t (j + 1) % 256 := pk_1 (by omega)
    have p2 : pk t n (j + 2) = t (j + 2) % 256 := pk_1 c2
    rw [if_neg (show ¬ (n : Int) ≤ ((j + 2 : Nat) : Int) by omega), if_pos (tp_c h hj), if_pos (tp_c h (show j + 1 < n by omega)), if_pos (tp_c h c2), Int.toNat_natCast, Int.toNat_natCast, Int.toNat_natCast, tp_g h, tp_g h, tp_g h]
    by_cases a0 : t j = 48
    · rw [if_neg (fun z => z a0)]
      by_cases a1 : t (j + 1) = 120
      · rw [if_neg (fun z => z a1), T139 (by omega)]
        simp only [Option.bind_some, Option.toList_some, Option.toList_none, List.cons_append, List.nil_append]
        rw [e140_42, e140_49]
        by_cases a2 : hexV (t (j + 2)) < 0
        · rw [if_pos a2]
          exact dec (decide_eq_false (fun z => by have := z.2.2; rw [p2, sg_hx t2] at this; omega))
        · rw [if_neg a2]
          exact hex (decide_eq_true ⟨by rw [p0, a0]; decide, by rw [p1, a1]; decide, by rw [p2, sg_hx t2]; omega⟩)
      · rw [if_pos a1]
        exact dec (decide_eq_false (fun z => a1 (by have := z.2.1; rw [p1] at this; omega)))
    · rw [if_pos a0]
      exact dec (decide_eq_false (fun z => a0 (by have := z.1; rw [p0] at this; omega)))
  · rw [if_pos (show (n : Int) ≤ ((j + 2 : Nat) : Int) by omega)]
    refine dec (Bool.eq_false_iff.mpr fun z => c2 (hx_n z))
theorem T141 (h : cTx σ t n) (hj : j < n) (hc : c = pk t n j) (h7 : gI σ 18 7 = (m : Int)) (hm : m < 4001) : okc (MM 141 [mR (some 18), mI (j : Int), mI (n : Int), mI c] σ) none (adP σ m (sgT c (pk t n (j + 1)) (pk t n (j + 2)) j)) := by
  have n4 := h.2.1
  have w2 : w32 ((j : Int) + 2) = ((j + 2 : Nat) : Int) := w32_a (b := 2) (by omega)
  have w1 : w32 ((j : Int) + 1) = ((j + 1 : Nat) : Int) := w32_s1 (by omega)
  have w3 : w32 ((j : Int) + 3) = ((j + 3 : Nat) : Int) := w32_a (b := 3) (by omega)
  have cb : 0 ≤ c ∧ c < 256 := by
    rw [hc, pk_1 hj]
    omega
  obtain ⟨D, hD⟩ : ∃ D : Int, D = if j + 1 < n then t (j + 1) % 256 else 0 := ⟨_, rfl⟩
  obtain ⟨E, hE⟩ : ∃ E : Int, E = if j + 2 < n then t (j + 2) % 256 else 0 := ⟨_, rfl⟩
  have hd1 : ∀ a : Int, 0 < a → ((D = a) = (pk t n (j + 1) = a)) := fun a ha => by
    rw [hD]
    unfold pk
    split
    · rfl
    · exact propext ⟨fun z => by omega, fun z => by omega⟩
  have he1 : ∀ a : Int, 0 < a → ((E = a) = (pk t n (j + 2) = a)) := fun a ha => by
    rw [hE]
    unfold pk
    split
    · rfl
    · exact propext ⟨fun z => by omega, fun z => by omega⟩
  have fin : ∀ (T : TK) (k b e : Int) (v : B64), k = kC T → b = (tB T : Int) → e = (tE T : Int) → (tK T = 3 → v = tV T) → (tK T = 4 → v = iL (sC (tkS T))) → okc (MM 134 [mR (some 18), mI k, mI b, mI e, mL v] σ) none (adP σ m T) := fun T k b e v e1 e2 e3 e4 e5 => by
    rw [e1, e2, e3]
    exact ad_P h7 hm e4 e5
  have s130 : ¬ ((c = 60 ∨ c = 62) ∧ pk t n (j + 1) = c ∧ pk t n (j + 2) = 61) → ¬ (pk t n (j + 1) = 61 ∧ sg2 c) → okc (RR (lkB tb141) (B141_130, [some (mR (some 18)), some (mI (j : Int)), some (mI (n : Int)), some (mI c), some (mI D), some (mI E)], [], σ)) none (adP σ m (sgT c (pk t n (j + 1)) (pk t n (j + 2)) j)) := fun n3 n2 => by
    unfold sgT
    rw [if_neg n3, if_neg n2, e141_130, T143b]
    simp only [Option.bind_some, Option.toList_some, Option.toList_none, List.cons_append, List.nil_append]
    rw [e141_137, e141_146, e141_146, w1]
    by_cases c1 : sg1 c
    · rw [b2_yes c1, if_neg (by decide), if_pos c1]
      refine okc_b (fin (4, j, j + 1, 0, c) 4 _ _ _ rfl rfl rfl (fun z => by cases z) (fun _ => by rw [show sC (tkS (4, j, j + 1, 0, c)) = c from if_pos cb.2])) fun τ p => ?_
      show okc (RR (lkB tb141) (B141_155, [some (mR (some 18)), some (mI (j : Int)), some (mI (n : Int)), some (mI c), some (mI D), some (mI E)], [], τ)) none _
      rw [e141_155]
      exact okc_s p
    · rw [b2_no c1, if_pos rfl, if_neg c1]
      refine okc_b (fin (5, j, j + 1, 0, 0) 7 _ _ _ rfl rfl rfl (fun z => by cases z) (fun z => by cases z)) fun τ p => ?_
      show okc (RR (lkB tb141) (B141_155, [some (mR (some 18)), some (mI (j : Int)), some (mI (n : Int)), some (mI c), some (mI D), some (mI E)], [], τ)) none _
      rw [e141_155]
      exact okc_s p
  have s95 : ¬ ((c = 60 ∨ c = 62) ∧ pk t n (j + 1) = c ∧ pk t n (j + 2) = 61) → okc (RR (lkB tb141) (B141_95, [some (mR (some 18)), some (mI (j : Int)), some (mI (n : Int)), some (mI c), some (mI D), some (mI E)], [], σ)) none (adP σ m (sgT c (pk t n (j + 1)) (pk t n (j + 2)) j)) := fun n3 => by
    rw [e141_95]
    by_cases d1 : D = 61
    · have d1' : pk t n (j + 1) = 61 := by rw [← hd1 61 (by decide)]; exact d1
      rw [if_neg (fun z => z d1), T143a]
      simp only [Option.bind_some, Option.toList_some, Option.toList_none, List.cons_append, List.nil_append]
      rw [e141_108]
      by_cases c1 : sg2 c
      · rw [b2_yes c1, if_neg (by decide), T142]
        simp only [Option.bind_some, Option.toList_some, Option.toList_none, List.cons_append, List.nil_append]
        rw [e141_124, w2]
        unfold sgT
        rw [if_neg n3, if_pos ⟨d1', c1⟩, d1']
        refine okc_b (fin (4, j, j + 2, 0, c * 256 + 61) 4 _ _ _ rfl rfl rfl (fun z => by cases z) (fun _ => ?_)) fun τ p => ?_
        · rw [d1]
          show iL (iOr (iOr c (iShl 61 8)) (iShl 0 16)) = iL (sC (c * 256 + 61))
          rcases c1 with r | r | r | r | r | r | r | r | r | r | r | r <;> rw [r] <;> decide
        · show okc (RR (lkB tb141) (B141_127, [some (mR (some 18)), some (mI (j : Int)), some (mI (n : Int)), some (mI c), some (mI D), some (mI E)], [], τ)) none _
          rw [e141_127, e141_155]
          exact okc_s p
      · rw [b2_no c1, if_pos rfl]
        exact s130 n3 (fun z => c1 z.2)
    · rw [if_pos d1]
      exact s130 n3 (fun z => d1 (by rw [hd1 61 (by decide)]; exact z.1))
  have s62 : (c = 60 ∨ c = 62) → okc (RR (lkB tb141) (B141_62, [some (mR (some 18)), some (mI (j : Int)), some (mI (n : Int)), some (mI c), some (mI D), some (mI E)], [], σ)) none (adP σ m (sgT c (pk t n (j + 1)) (pk t n (j + 2)) j)) := fun cc => by
    rw [e141_62]
    by_cases d1 : D = c
    · have d1' : pk t n (j + 1) = c := by rw [← hd1 c (by omega)]; exact d1
      rw [if_neg (fun z => z d1)]
      by_cases e1 : E = 61
      · have e1' : pk t n (j + 2) = 61 := by rw [← he1 61 (by decide)]; exact e1
        rw [if_neg (fun z => z e1), T142]
        simp only [Option.bind_some, Option.toList_some, Option.toList_none, List.cons_append, List.nil_append]
        rw [e141_89, w3]
        unfold sgT
        rw [if_pos ⟨cc, d1', e1'⟩, d1', e1']
        refine okc_b (fin (4, j, j + 3, 0, c * 65536 + c * 256 + 61) 4 _ _ _ rfl rfl rfl (fun z => by cases z) (fun _ => ?_)) fun τ p => ?_
        · rw [d1, e1]
          show iL (iOr (iOr c (iShl c 8)) (iShl 61 16)) = iL (sC (c * 65536 + c * 256 + 61))
          rcases cc with r | r <;> rw [r] <;> decide
        · show okc (RR (lkB tb141) (B141_92, [some (mR (some 18)), some (mI (j : Int)), some (mI (n : Int)), some (mI c), some (mI D), some (mI E)], [], τ)) none _
          rw [e141_92, e141_155]
          exact okc_s p
      · rw [if_pos e1]
        exact s95 (fun z => e1 (by rw [he1 61 (by decide)]; exact z.2.2))
    · rw [if_pos d1]
      exact s95 (fun z => d1 (by rw [hd1 c (by omega)]; exact z.2.1))
  have s48 : okc (RR (lkB tb141) (B141_48, [some (mR (some 18)), some (mI (j : Int)), some (mI (n : Int)), some (mI c), some (mI D), none], [mI E], σ)) none (adP σ m (sgT c (pk t n (j + 1)) (pk t n (j + 2)) j)) := by
    rw [e141_48]
    by_cases c1 : c = 60
    · rw [if_pos c1]
      exact s62 (Or.inl c1)
    · rw [if_neg c1]
      by_cases c2 : c = 62
      · rw [if_neg (fun z => z c2)]
        exact s62 (Or.inr c2)
      · rw [if_pos c2]
        exact s95 (fun z => z.1.elim c1 c2)
  have s23 : okc (RR (lkB tb141) (B141_23, [some (mR (some 18)), some (mI (j : Int)), some (mI (n : Int)), some (mI c), none, none], [mI D], σ)) none (adP σ m (sgT c (pk t n (j + 1)) (pk t n (j + 2)) j)) := by
    rw [e141_23, w2]
    by_cases c1 : j + 2 < n
    · rw [if_neg (by omega), if_pos (tp_c h c1), Int.toNat_natCast, tp_g h, iAnd255]
      rw [if_pos c1] at hE
      rw [← hE]
      exact s48
    · rw [if_pos (by omega)]
      rw [if_neg c1] at hE
      rw [← hE]
      exact s48
  rw [M141, e141_0, w1]
  by_cases c1 : j + 1 < n
  · rw [if_neg (by omega), if_pos (tp_c h c1), Int.toNat_natCast, tp_g h, iAnd255]
    rw [if_pos c1] at hD
    rw [← hD]
    exact s23
  · rw [if_pos (by omega)]
    rw [if_neg c1] at hD
    rw [← hD]
    exact s23
end CLY
