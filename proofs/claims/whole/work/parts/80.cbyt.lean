/-! ===== the class's states: bytes ===== -/
section CBY
variable {σ τ ρ : MS} {k pl p f : Nat} {S T : ST} {u v : VL} {a r r0 : Int}
theorem bit_k : ∀ n : Fin 256, ∀ s : Fin 8, ((lShr (iL (n.val : Int)) (s.val : Int) &&& 1#64) = 0#64) ↔ ¬ (n.val.testBit s.val = true) := by decide +kernel
theorem or_k : ∀ n : Fin 256, ∀ s : Fin 8, iL (n.val : Int) ||| lShl 1#64 (s.val : Int) = iL ((n.val ||| 1 <<< s.val : Nat) : Int) := by decide +kernel
theorem bit_c {s : Nat} (h0 : 0 ≤ r) (h1 : r < 256) (hs : s < 8) : ((lShr (iL r) (s : Int) &&& BitVec.ofNat 64 1) = BitVec.ofNat 64 0) = ¬ (r.toNat.testBit s = true) := by
  obtain ⟨n, hn⟩ : ∃ n : Nat, r = (n : Int) := ⟨r.toNat, by omega⟩
  subst hn
  exact propext (bit_k ⟨n, by omega⟩ ⟨s, hs⟩)
theorem or_c {s : Nat} (h0 : 0 ≤ r) (h1 : r < 256) (hs : s < 8) : iL r ||| lShl (BitVec.ofNat 64 1) (s : Int) = iL ((r.toNat ||| 1 <<< s : Nat) : Int) := by
  obtain ⟨n, hn⟩ : ∃ n : Nat, r = (n : Int) := ⟨r.toNat, by omega⟩
  subst hn
  exact or_k ⟨n, by omega⟩ ⟨s, hs⟩
theorem ar_no {b n i : Nat} (hi : i < n) (h : ¬ setB S f (b + i)) : areS S f b n = false := by
  unfold areS
  exact List.all_eq_false.mpr ⟨i, List.mem_range.mpr hi, fun z => h (of_decide_eq_true z)⟩
theorem ar_yes {b n : Nat} (h : ∀ i, i < n → setB S f (b + i)) : areS S f b n = true := by
  unfold areS
  exact List.all_eq_true.mpr fun i hi => decide_eq_true (h i (List.mem_range.mp hi))
theorem T226 {b n : Nat} (h : isSt σ k) (hS : CSt σ k S) (hc : canS S) (hk : ∀ j, j < 26 * sF S → okK (sV S j)) (hF : sF S ≤ 4) (hf : f < sF S) (e : a + 128 = (b : Int)) (hn : b + n ≤ 128) : MM 226 [mR (some k), mL (iL (f : Int)), mL (iL a), mL (iL (n : Int))] σ = some (some (mI (b2 (areS S f b n = true))), σ) := by
  have key : ∀ j i : Nat, j + i = n → (∀ i', i' < i → setB S f (b + i')) → RR (lkB tb226) (B226_3, [some (mR (some k)), some (mL (iL (f : Int))), none, some (mL (iL a)), none, some (mL (iL (n : Int))), none, some (mL (iL (a + (i : Int)))), none, none, none], [], σ) = some (some (mI (b2 (areS S f b n = true))), σ) := by
    intro j
    induction j with
    | zero =>
      intro i ei hi
      have ei : i = n := by omega
      subst ei
      rw [e226_3, iLa, iLt (by omega) (by omega), if_pos (Int.le_refl _), b2_yes (ar_yes hi)]
    | succ j ih =>
      intro i ei hi
      have ih := ih (i + 1) (by omega)
      have e' : a + (i : Int) + 128 = ((b + i : Nat) : Int) := by omega
      have lt : 26 * f + 10 + (b + i) / 8 < 26 * sF S := prt_lt hf (by omega)
      have hv := hS.2.2.2.1 f ((b + i) / 8) hf (by omega)
      have cv := hc _ lt
      have kv := hk _ lt
      have l : 297 * f + 121 + 11 * ((b + i) / 8) + 11 ≤ 1188 := by omega
      have t13 := T213 (σ := σ) (show f < 4 by omega) e' (by omega)
      have sb : setB S f (b + i) ↔ if vk (sV S (26 * f + 10 + (b + i) / 8)) = 0 then (vr (sV S (26 * f + 10 + (b + i) / 8))).toNat.testBit ((b + i) % 8) = true else vk (sV S (26 * f + 10 + (b + i) / 8)) = 1 := Iff.rfl
      have nx : setB S f (b + i) → RR (lkB tb226) (B226_3, [some (mR (some k)), some (mL (iL (f : Int))), none, some (mL (iL a)), none, some (mL (iL (n : Int))), none, some (mL (iL (a + (i : Int)) + BitVec.ofNat 64 1)), none, none, none], [], σ) = some (some (mI (b2 (areS S f b n = true))), σ) := fun z => by
        have := ih (fun i' q => by
          by_cases c : i' = i
          · rw [c]; exact z
          · exact hi i' (by omega))
        have e1 : iL (a + (i : Int)) + BitVec.ofNat 64 1 = iL (a + ((i + 1 : Nat) : Int)) := by
          rw [show (BitVec.ofNat 64 1) = iL 1 from rfl, iLa]
          congr 1
          omega
        rw [e1]
        exact this
      generalize hp : 297 * f + 121 + 11 * ((b + i) / 8) = pl at *
      generalize sV S (26 * f + 10 + (b + i) / 8) = v at *
      have f82 : ∀ q : Prop, ∀ d : Decidable q, (q ↔ setB S f (b + i)) → RR (lkB tb226) (B226_82, [some (mR (some k)), some (mL (iL (f : Int))), none, some (mL (iL a)), none, some (mL (iL (n : Int))), none, some (mL (iL (a + (i : Int)))), none, some (mI (pl : Int)), none], [mI (@b2 q d)], σ) = some (some (mI (b2 (areS S f b n = true))), σ) := fun q d hq => by
        rw [e226_82]
        by_cases z : q
        · rw [if_pos (show ¬ @b2 q d = 0 by rw [b2_yes z]; decide)]
          exact RR_q (nx (hq.mp z)) (by repeat (first | exact lq_nil | refine lq_cons (Or.inr rfl) ?_ | refine lq_cons (Or.inl rfl) ?_))
        · rw [if_neg (not_not_intro (b2_no z)), b2_no (p := areS S f b n = true)]
          rw [ar_no (show i < n by omega) (fun y => z (hq.mpr y))]
          decide
      have f0 : ¬ setB S f (b + i) → RR (lkB tb226) (B226_82, [some (mR (some k)), some (mL (iL (f : Int))), none, some (mL (iL a)), none, some (mL (iL (n : Int))), none, some (mL (iL (a + (i : Int)))), none, some (mI (pl : Int)), none], [mI 0], σ) = some (some (mI (b2 (areS S f b n = true))), σ) := fun z => by
        have := f82 False inferInstance ⟨fun y => y.elim, z⟩
        rwa [b2_no (p := False) not_false] at this
      have f1 : setB S f (b + i) → RR (lkB tb226) (B226_82, [some (mR (some k)), some (mL (iL (f : Int))), none, some (mL (iL a)), none, some (mL (iL (n : Int))), none, some (mL (iL (a + (i : Int)))), none, some (mI (pl : Int)), none], [mI 1], σ) = some (some (mI (b2 (areS S f b n = true))), σ) := fun z => by
        have := f82 True inferInstance ⟨fun _ => z, fun _ => trivial⟩
        rwa [b2_yes (p := True) trivial] at this
      have k0 : (iL (vk v) = BitVec.ofNat 64 0) = (vk v = 0) := iL_z (by omega)
      have k1 : (iL (vk v) = BitVec.ofNat 64 1) = (vk v = 1) := iL_o (by omega)
      have s7 : lI (iL (a + (i : Int)) &&& iL 7) = (((b + i) % 8 : Nat) : Int) := by
        rw [an7 e' (by omega), lIi (by omega) (by omega)]
      have nl : ¬ (iL a + iL (n : Int)).toInt ≤ (iL (a + (i : Int))).toInt := by
        rw [iLa, iLt (by omega) (by omega), iLt (by omega) (by omega)]
        omega
      have w1 := w_pl (pl := pl) (c := 1) (by omega)
      have w1 : w32 ((pl : Int) + 1) = ((pl + 1 : Nat) : Int) := w1
      by_cases z : vk v = 0
      · have r1 : gL σ (k + 1 + 0) (pl + 1) = iL (vr v) := (rd_1 hv).trans (if_pos z)
        have bb := bit_c (s := (b + i) % 8) (cv.2.1 z).2.1 (by have := (cv.2.1 z).2.2; omega) (by omega)
        rw [if_pos z] at sb
        by_cases t : (vr v).toNat.testBit ((b + i) % 8) = true
        · simp only [e226_3, nl, t13, e226_19, Option.getD_some, Option.bind_some, Option.toList_some, Option.toList_none, List.cons_append, List.nil_append, and_self, and_true, true_and, false_and, and_false, ite_self, not_true_eq_false, not_false_eq_true, reduceIte, Nat.reduceEqDiff, ab_I, ab_L, ab_R, ao_I, ao_L, ao_R, gL_sL, gI_sI, gR_sR, gI_sL, gI_sR, gL_sI, gL_sR, gR_sI, gR_sL, aoS h, gSt h (show pl < 1188 by omega), gSt h (show pl + 1 < 1188 by omega), Int.toNat_natCast, rd_0 hv, k0, z, w1, r1, s7, bb, t]
          exact f1 (sb.mpr t)
        · simp only [e226_3, nl, t13, e226_19, Option.getD_some, Option.bind_some, Option.toList_some, Option.toList_none, List.cons_append, List.nil_append, and_self, and_true, true_and, false_and, and_false, ite_self, not_true_eq_false, not_false_eq_true, reduceIte, Nat.reduceEqDiff, ab_I, ab_L, ab_R, ao_I, ao_L, ao_R, gL_sL, gI_sI, gR_sR, gI_sL, gI_sR, gL_sI, gL_sR, gR_sI, gR_sL, aoS h, gSt h (show pl < 1188 by omega), gSt h (show pl + 1 < 1188 by omega), Int.toNat_natCast, rd_0 hv, k0, z, w1, r1, s7, bb, t]
          exact f0 (fun y => t (sb.mp y))
      · rw [if_neg z] at sb
        by_cases t : vk v = 1
        · simp only [e226_3, nl, t13, e226_19, Option.getD_some, Option.bind_some, Option.toList_some, Option.toList_none, List.cons_append, List.nil_append, and_self, and_true, true_and, false_and, and_false, ite_self, not_true_eq_false, not_false_eq_true, reduceIte, Nat.reduceEqDiff, ab_I, ab_L, ab_R, ao_I, ao_L, ao_R, gL_sL, gI_sI, gR_sR, gI_sL, gI_sR, gL_sI, gL_sR, gR_sI, gR_sL, aoS h, gSt h (show pl < 1188 by omega), Int.toNat_natCast, rd_0 hv, k0, k1, z, eq_true t]
          exact f1 (sb.mpr t)
        · simp only [e226_3, nl, t13, e226_19, Option.getD_some, Option.bind_some, Option.toList_some, Option.toList_none, List.cons_append, List.nil_append, and_self, and_true, true_and, false_and, and_false, ite_self, not_true_eq_false, not_false_eq_true, reduceIte, Nat.reduceEqDiff, ab_I, ab_L, ab_R, ao_I, ao_L, ao_R, gL_sL, gI_sI, gR_sR, gI_sL, gI_sR, gL_sI, gL_sR, gR_sI, gR_sL, aoS h, gSt h (show pl < 1188 by omega), Int.toNat_natCast, rd_0 hv, k0, k1, z, t]
          exact f0 (fun y => t (sb.mp y))
  have := key n 0 (by omega) (fun i' q => absurd q (Nat.not_lt_zero _))
  rw [M226, e226_0]
  have ea : a + ((0 : Nat) : Int) = a := by omega
  rw [ea] at this
  exact this
/-- a part's bytes are written -/
theorem cx_b (c : cxV τ σ k pl (bytV r0)) : cxV (sL τ (k + 1 + 0) (pl + 1) (iL r)) σ k pl (bytV r) := by
  obtain ⟨c1, c2, c3, c4⟩ := c
  refine ⟨c1, fun k' s q => ?_, c3, fun i hi => ?_⟩
  · rw [gL_sL, if_neg (by omega)]
    exact c2 k' s q
  · rw [gL_sL]
    by_cases i1 : i = 1
    · rw [if_pos ⟨rfl, by omega⟩, i1]
      rfl
    · rw [if_neg (by omega), c4 i hi]
      unfold enV
      rw [if_neg i1, if_neg i1]
      rfl
theorem cx_s (h : cAt σ k pl v) : cxV σ σ k pl v := ⟨fun _ _ => rfl, fun _ _ _ => rfl, rfl, h⟩
theorem cx_t {u w : VL} (h1 : cxV ρ τ k pl w) (h2 : cxV τ σ k pl u) : cxV ρ σ k pl w := ⟨fun k' s => (h1.1 k' s).trans (h2.1 k' s), fun k' s q => (h1.2.1 k' s q).trans (h2.2.1 k' s q), h1.2.2.1.trans h2.2.2.1, h1.2.2.2⟩
theorem unp_b (c : canV v) : unpV v = bytV (vr (unpV v)) := by
  unfold unpV
  by_cases z : vk v = 0
  · rw [if_pos z]
    exact (c.2.1 z).1
  · rw [if_neg z]
    rfl
/-- one byte: its part has bytes, and is set perhaps -/
theorem L227 {b c n i : Nat} {P : MS → Prop} (h : isSt τ k) (hT : CSt τ k T) (cT : canS T) (hk : ∀ j, j < 26 * sF T → okK (sV T j)) (hF : sF T ≤ 4) (hf : f < sF T) (e : a + 128 = (b : Int)) (hi : i < n) (hn : b + n ≤ 128) (hcn : c ≤ n)
    (nx : ∀ τ', crq τ' τ k → CSt τ' k (sF T, upV (sV T) (26 * f + 10 + (b + i) / 8) (if i < c then vR (unpV (sV T (26 * f + 10 + (b + i) / 8))) (((vr (unpV (sV T (26 * f + 10 + (b + i) / 8)))).toNat ||| 1 <<< ((b + i) % 8) : Nat) : Int) else unpV (sV T (26 * f + 10 + (b + i) / 8))), sB T, sH T) → okc (RR (lkB tb227) (B227_3, [some (mR (some k)), some (mL (iL (f : Int))), none, some (mL (iL a)), none, some (mL (iL (n : Int))), none, some (mL (iL (c : Int))), none, some (mL (iL (a + ((i + 1 : Nat) : Int)))), none, none, none], [], τ')) none P) :
    okc (RR (lkB tb227) (B227_3, [some (mR (some k)), some (mL (iL (f : Int))), none, some (mL (iL a)), none, some (mL (iL (n : Int))), none, some (mL (iL (c : Int))), none, some (mL (iL (a + (i : Int)))), none, none, none], [], τ)) none P := by
  have e' : a + (i : Int) + 128 = ((b + i : Nat) : Int) := by omega
  have lt : 26 * f + 10 + (b + i) / 8 < 26 * sF T := prt_lt hf (by omega)
  have q16 : (b + i) / 8 < 16 := by omega
  have hv := hT.2.2.2.1 f ((b + i) / 8) hf q16
  have cv := cT _ lt
  have kv := hk _ lt
  have l : 297 * f + 121 + 11 * ((b + i) / 8) + 11 ≤ 1188 := by omega
  have t13 := T213 (σ := τ) (show f < 4 by omega) e' (by omega)
  have wp : ∀ {τ' : MS} {u : VL}, cxV τ' τ k (297 * f + 121 + 11 * ((b + i) / 8)) u → CSt τ' k (sF T, upV (sV T) (26 * f + 10 + (b + i) / 8) u, sB T, sH T) := fun q => CSt_p hF hT hf q16 q
  have e1 : iL (a + (i : Int)) + BitVec.ofNat 64 1 = iL (a + ((i + 1 : Nat) : Int)) := by
    rw [show (BitVec.ofNat 64 1) = iL 1 from rfl, iLa]
    congr 1
    omega
  generalize hp : 297 * f + 121 + 11 * ((b + i) / 8) = pl at *
  generalize sV T (26 * f + 10 + (b + i) / 8) = v at *
  have k0 : (iL (vk v) = BitVec.ofNat 64 0) = (vk v = 0) := iL_z (by omega)
  have k1 : (iL (vk v) = BitVec.ofNat 64 1) = (vk v = 1) := iL_o (by omega)
  have s7 : lI (iL (a + (i : Int)) &&& iL 7) = (((b + i) % 8 : Nat) : Int) := by
    rw [an7 e' (by omega), lIi (by omega) (by omega)]
  have nl : ¬ (iL a + iL (n : Int)).toInt ≤ (iL (a + (i : Int))).toInt := by
    rw [iLa, iLt (by omega) (by omega), iLt (by omega) (by omega)]
    omega
  have nc : ((iL a + iL (c : Int)).toInt ≤ (iL (a + (i : Int))).toInt) = ¬ i < c := by
    rw [iLa, iLt (by omega) (by omega), iLt (by omega) (by omega)]
    apply propext
    omega
  have w1 : w32 ((pl : Int) + 1) = ((pl + 1 : Nat) : Int) := w_pl (pl := pl) (c := 1) (by omega)
  have uc := unp_c cv
  have ub := unp_b cv
  -- behind its having bytes
  have f79 : ∀ τ1 : MS, cxV τ1 τ k pl (unpV v) → okc (RR (lkB tb227) (B227_79, [some (mR (some k)), some (mL (iL (f : Int))), none, some (mL (iL a)), none, some (mL (iL (n : Int))), none, some (mL (iL (c : Int))), none, some (mL (iL (a + (i : Int)))), none, some (mI (pl : Int)), none], [], τ1)) none P := fun τ1 c1 => by
    have h1 := st_r c1.2.2.1 h
    by_cases ic : i < c
    · have r1 : gL τ1 (k + 1 + 0) (pl + 1) = iL (vr (unpV v)) := (rd_1 c1.2.2.2).trans (if_pos (unp_k v))
      have oo := or_c (s := (b + i) % 8) uc.1 uc.2 (by omega)
      have c2 : cxV (sL τ1 (k + 1 + 0) (pl + 1) (iL (((vr (unpV v)).toNat ||| 1 <<< ((b + i) % 8) : Nat) : Int))) τ k pl (vR (unpV v) (((vr (unpV v)).toNat ||| 1 <<< ((b + i) % 8) : Nat) : Int)) := by
        have z := cx_b (r := (((vr (unpV v)).toNat ||| 1 <<< ((b + i) % 8) : Nat) : Int)) (by rw [ub] at c1; exact c1)
        have ez : vR (unpV v) (((vr (unpV v)).toNat ||| 1 <<< ((b + i) % 8) : Nat) : Int) = bytV (((vr (unpV v)).toNat ||| 1 <<< ((b + i) % 8) : Nat) : Int) := by
          rw [show vR (unpV v) (((vr (unpV v)).toNat ||| 1 <<< ((b + i) % 8) : Nat) : Int) = vR (bytV (vr (unpV v))) (((vr (unpV v)).toNat ||| 1 <<< ((b + i) % 8) : Nat) : Int) by rw [← ub]]
          rfl
        rw [ez]
        exact z
      have n1 := nx _ (crq_c c2) (by rw [if_pos ic]; exact wp c2)
      simp only [e227_79, e227_110, Option.getD_some, Option.bind_some, Option.toList_some, Option.toList_none, List.cons_append, List.nil_append, and_self, and_true, true_and, false_and, and_false, ite_self, not_true_eq_false, not_false_eq_true, reduceIte, Nat.reduceEqDiff, ab_I, ab_L, ab_R, ao_I, ao_L, ao_R, gL_sL, gI_sI, gR_sR, gI_sL, gI_sR, gL_sI, gL_sR, gR_sI, gR_sL, nc, eq_true ic, aoS h1, gSt h1 (show pl + 1 < 1188 by omega), w1, Int.toNat_natCast, r1, s7, oo, e1]
      exact okc_q (by repeat (first | exact lq_nil | refine lq_cons (Or.inr rfl) ?_ | refine lq_cons (Or.inl rfl) ?_)) n1
    · have n1 := nx τ1 (crq_c c1) (by rw [if_neg ic]; exact wp c1)
      simp only [e227_79, e227_110, Option.getD_some, Option.bind_some, Option.toList_some, Option.toList_none, List.cons_append, List.nil_append, and_self, and_true, true_and, false_and, and_false, ite_self, not_true_eq_false, not_false_eq_true, reduceIte, Nat.reduceEqDiff, ab_I, ab_L, ab_R, ao_I, ao_L, ao_R, gL_sL, gI_sI, gR_sR, gI_sL, gI_sR, gL_sI, gL_sR, gR_sI, gR_sL, nc, eq_false ic, e1]
      exact okc_q (by repeat (first | exact lq_nil | refine lq_cons (Or.inr rfl) ?_ | refine lq_cons (Or.inl rfl) ?_)) n1
  by_cases z : vk v = 0
  · have u0 : unpV v = v := unp_0 z
    simp only [e227_3, nl, t13, e227_19, Option.getD_some, Option.bind_some, Option.toList_some, Option.toList_none, List.cons_append, List.nil_append, and_self, and_true, true_and, false_and, and_false, ite_self, not_true_eq_false, not_false_eq_true, reduceIte, Nat.reduceEqDiff, ab_I, ab_L, ab_R, ao_I, ao_L, ao_R, gL_sL, gI_sI, gR_sR, gI_sL, gI_sR, gL_sI, gL_sR, gR_sI, gR_sL, aoS h, gSt h (show pl < 1188 by omega), Int.toNat_natCast, rd_0 hv, k0, z]
    exact f79 τ (by rw [u0]; exact cx_s hv)
  · obtain ⟨τ', t15, c15, -⟩ := T215 h l
    have h15 := st_r c15.2.2.1 h
    have uz : unpV v = bytV (if vk v = 1 then 255 else 0) := if_neg z
    by_cases t : vk v = 1
    · rw [if_pos t] at uz
      have c2 : cxV (sL τ' (k + 1 + 0) (pl + 1) (iL 255)) τ k pl (unpV v) := by
        rw [uz]
        exact cx_b c15
      simp only [e227_3, nl, t13, e227_19, e227_50, e227_58, e227_78, Option.getD_some, Option.bind_some, Option.toList_some, Option.toList_none, List.cons_append, List.nil_append, and_self, and_true, true_and, false_and, and_false, ite_self, not_true_eq_false, not_false_eq_true, reduceIte, Nat.reduceEqDiff, ab_I, ab_L, ab_R, ao_I, ao_L, ao_R, gL_sL, gI_sI, gR_sR, gI_sL, gI_sR, gL_sI, gL_sR, gR_sI, gR_sL, aoS h, gSt h (show pl < 1188 by omega), Int.toNat_natCast, rd_0 hv, k0, k1, z, eq_true t, t15, aoS h15, w1, gSt h15 (show pl + 1 < 1188 by omega), Int.reduceEq]
      exact okc_q (by repeat (first | exact lq_nil | refine lq_cons (Or.inr rfl) ?_ | refine lq_cons (Or.inl rfl) ?_)) (f79 _ c2)
    · rw [if_neg t] at uz
      have c2 : cxV (sL τ' (k + 1 + 0) (pl + 1) (BitVec.ofNat 64 0)) τ k pl (unpV v) := by
        rw [uz]
        exact cx_b (r := 0) c15
      simp only [e227_3, nl, t13, e227_19, e227_50, e227_58, e227_78, Option.getD_some, Option.bind_some, Option.toList_some, Option.toList_none, List.cons_append, List.nil_append, and_self, and_true, true_and, false_and, and_false, ite_self, not_true_eq_false, not_false_eq_true, reduceIte, Nat.reduceEqDiff, ab_I, ab_L, ab_R, ao_I, ao_L, ao_R, gL_sL, gI_sI, gR_sR, gI_sL, gI_sR, gL_sI, gL_sR, gR_sI, gR_sL, aoS h, gSt h (show pl < 1188 by omega), Int.toNat_natCast, rd_0 hv, k0, k1, z, t, t15, aoS h15, w1, gSt h15 (show pl + 1 < 1188 by omega)]
      exact okc_q (by repeat (first | exact lq_nil | refine lq_cons (Or.inr rfl) ?_ | refine lq_cons (Or.inl rfl) ?_)) (f79 _ c2)
theorem put_kk {b n c j : Nat} (h : okK (sV S j)) : okK (sV (putB S f b n c) j) := by
  rw [put_v]
  split
  · show 0 ≤ vk (unpV (sV S j)) ∧ vk (unpV (sV S j)) ≤ 10
    rw [unp_k]
    decide
  · exact h
theorem put_F {b n c : Nat} : sF (putB S f b n c) = sF S := rfl
theorem put_st {b i c : Nat} (hc : canS S) (hp : 26 * f + 10 + (b + i) / 8 < 26 * sF S) (hm : c ≤ i) : (sF (putB S f b i c), upV (sV (putB S f b i c)) (26 * f + 10 + (b + i) / 8) (unpV (sV (putB S f b i c) (26 * f + 10 + (b + i) / 8))), sB (putB S f b i c), sH (putB S f b i c)) = putB S f b (i + 1) c := putB_u hm (unp_c (hc _ hp)).1
theorem T227 {b n c : Nat} (h : isSt σ k) (hS : CSt σ k S) (cS : canS S) (hk : ∀ j, j < 26 * sF S → okK (sV S j)) (hF : sF S ≤ 4) (hf : f < sF S) (e : a + 128 = (b : Int)) (hn : b + n ≤ 128) (hcn : c ≤ n) : okc (MM 227 [mR (some k), mL (iL (f : Int)), mL (iL a), mL (iL (n : Int)), mL (iL (c : Int))] σ) none (fun τ => CSt τ k (putB S f b n c) ∧ crq τ σ k) := by
  have key : ∀ (j i : Nat) (τ : MS), j + i = n → CSt τ k (putB S f b i (min i c)) → crq τ σ k → okc (RR (lkB tb227) (B227_3, [some (mR (some k)), some (mL (iL (f : Int))), none, some (mL (iL a)), none, some (mL (iL (n : Int))), none, some (mL (iL (c : Int))), none, some (mL (iL (a + (i : Int)))), none, none, none], [], τ)) none (fun τ => CSt τ k (putB S f b n c) ∧ crq τ σ k) := by
    intro j
    induction j with
    | zero =>
      intro i τ ei c1 c2
      have ei : i = n := by omega
      subst ei
      rw [show min i c = c by omega] at c1
      rw [e227_3, iLa, iLt (by omega) (by omega), if_pos (Int.le_refl _)]
      exact okc_s ⟨c1, c2⟩
    | succ j ih =>
      intro i τ ei c1 c2
      refine L227 (i := i) (st_r c2.2.2 h) c1 (can_put cS) (fun j hj => put_kk (hk j hj)) hF hf e (by omega) hn hcn fun τ' q1 q2 => ?_
      refine ih (i + 1) τ' (by omega) ?_ (crq_t q1 c2)
      have lt : 26 * f + 10 + (b + i) / 8 < 26 * sF S := prt_lt hf (by omega)
      by_cases ic : i < c
      · rw [if_pos ic, show min i c = i by omega] at q2
        rw [show min (i + 1) c = i + 1 by omega, ← one_a cS lt]
        exact q2
      · rw [if_neg ic, show min i c = c by omega] at q2
        rw [show min (i + 1) c = c by omega, ← put_st cS lt (by omega)]
        exact q2
  have := key n 0 σ (by omega) (by
    rw [show min 0 c = 0 by omega, putB_0]
    exact hS) (crq_r _ _)
  rw [M227, e227_0]
  have ea : a + ((0 : Nat) : Int) = a := by omega
  rw [ea] at this
  exact this
end CBY
