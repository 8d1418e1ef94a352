/-! ===== the class's plain code: numbers ===== -/
def updG (g : Nat → B64) (a : Nat) (v : B64) : Nat → B64 := fun r => if r = a then v else g r
section CALU
variable {σ τ ρ υ ω : MS} {w w2 X Y u v : B64} {m n f i j s t N K P Q d e : Nat} {a b c o x y : Int} {g h : Nat → B64} {F : B64 → B64 → B64}
theorem ug_s : updG g d v d = v := if_pos rfl
theorem ug_n (z : ¬ e = d) : updG g d v e = g e := if_neg z
theorem nat_cF (v : B64) : (v &&& cF).toNat = v.toNat % 4294967296 := by
  rw [BitVec.toNat_and]
  exact Nat.and_two_pow_sub_one_eq_mod v.toNat 32
theorem cut_add : ((u &&& cF) + (v &&& cF)) &&& cF = (u + v) &&& cF := by
  apply BitVec.eq_of_toNat_eq
  rw [nat_cF, nat_cF, BitVec.toNat_add, BitVec.toNat_add, nat_cF, nat_cF]
  omega
theorem cut_sub : ((u &&& cF) - (v &&& cF)) &&& cF = (u - v) &&& cF := by
  apply BitVec.eq_of_toNat_eq
  have a1 := u.isLt
  have a2 := v.isLt
  rw [nat_cF, nat_cF, BitVec.toNat_sub, BitVec.toNat_sub, nat_cF, nat_cF]
  omega
theorem cut_mul : ((u &&& cF) * (v &&& cF)) &&& cF = (u * v) &&& cF := by
  apply BitVec.eq_of_toNat_eq
  rw [nat_cF, nat_cF, BitVec.toNat_mul, BitVec.toNat_mul, nat_cF, nat_cF]
  have d : (4294967296 : Nat) ∣ 2 ^ 64 := ⟨4294967296, rfl⟩
  rw [Nat.mod_mod_of_dvd _ d, Nat.mod_mod_of_dvd _ d, ← Nat.mul_mod]
theorem cut_or : ((u &&& cF) ||| (v &&& cF)) &&& cF = (u ||| v) &&& cF := by
  apply BitVec.eq_of_getLsbD_eq
  intro i hi
  simp only [BitVec.getLsbD_and, BitVec.getLsbD_or]
  cases u.getLsbD i <;> cases v.getLsbD i <;> cases BitVec.getLsbD cF i <;> rfl
theorem cut_and : ((u &&& cF) &&& (v &&& cF)) &&& cF = (u &&& v) &&& cF := by
  apply BitVec.eq_of_getLsbD_eq
  intro i hi
  simp only [BitVec.getLsbD_and]
  cases u.getLsbD i <;> cases v.getLsbD i <;> cases BitVec.getLsbD cF i <;> rfl
theorem cut_xor : ((u &&& cF) ^^^ (v &&& cF)) &&& cF = (u ^^^ v) &&& cF := by
  apply BitVec.eq_of_getLsbD_eq
  intro i hi
  simp only [BitVec.getLsbD_and, BitVec.getLsbD_xor]
  cases u.getLsbD i <;> cases v.getLsbD i <;> cases BitVec.getLsbD cF i <;> rfl
theorem cut_neg : (-(u &&& cF)) &&& cF = (0#64 - u) &&& cF := by
  have := cut_sub (u := 0#64) (v := u)
  rw [← this, show (0#64 &&& cF : B64) = 0#64 from rfl, BitVec.zero_sub]
theorem cut_sxt (hn : n = 8 ∨ n = 16) : sxt n (v &&& cF) = sxt n v := by
  unfold sxt
  have e : (v &&& cF) <<< (64 - n) = v <<< (64 - n) := by
    apply BitVec.eq_of_toNat_eq
    rw [BitVec.toNat_shiftLeft, BitVec.toNat_shiftLeft, nat_cF, Nat.shiftLeft_eq, Nat.shiftLeft_eq]
    rcases hn with e | e
    · rw [e]
      show v.toNat % 4294967296 * 72057594037927936 % 18446744073709551616 = v.toNat * 72057594037927936 % 18446744073709551616
      omega
    · rw [e]
      show v.toNat % 4294967296 * 281474976710656 % 18446744073709551616 = v.toNat * 281474976710656 % 18446744073709551616
      omega
  rw [e]
theorem set_v (h0 : -2147483648 ≤ x) (h1 : x < 2147483648) : (lShl (iL (iShr x 31)) 32) ||| (iL x &&& cF) = iL x := by
  have es : iShr x 31 = x / 2147483648 := rfl
  have et : (iL x).toNat = (x % 18446744073709551616).toNat := by
    unfold iL
    rw [BitVec.toNat_ofInt]
    rfl
  by_cases c : 0 ≤ x
  · rw [es, show x / 2147483648 = 0 by omega, show lShl (iL 0) 32 = 0#64 from rfl, BitVec.zero_or]
    exact lo_m (by rw [et]; omega)
  · rw [es, show x / 2147483648 = -1 by omega]
    apply BitVec.eq_of_toNat_eq
    rw [BitVec.toNat_or, nat_cF, show (lShl (iL (-1)) 32).toNat = 2 ^ 32 * 4294967295 by decide]
    have key := Nat.two_pow_add_eq_or_of_lt (i := 32) (b := (iL x).toNat % 4294967296) (Nat.mod_lt _ (by decide)) 4294967295
    rw [← key, et]
    omega
theorem rng_I : -2147483648 ≤ fI w ∧ fI w < 2147483648 := by
  have a1 := w.toInt_lt
  have a2 := w.le_toInt
  unfold fI
  omega
/-! one operation -/
theorem st_set (h0 : -2147483648 ≤ x) (h1 : x < 2147483648) : stpG g (setQ a x) = updG g a.toNat (iL x) := funext fun r => by
  show (if r = a.toNat then mqV 0 x (iShr x 31) g else g r) = _
  unfold mqV
  rw [if_pos rfl, set_v h0 h1]
  rfl
theorem st_haf {sg : Prop} {ds : Decidable sg} : stpG g (@hafQ a b sg ds) = updG g a.toNat (@ite _ sg ds (sxt 32 (g b.toNat)) (g b.toNat &&& cF)) := funext fun r => by
  show (if r = a.toNat then mqV (@ite _ sg ds 16 15) b 32 g else g r) = _
  have e : mqV (@ite _ sg ds 16 15) b 32 g = @ite _ sg ds (sxt 32 (g b.toNat)) (g b.toNat &&& cF) := by
    by_cases c : sg
    · rw [if_pos c, if_pos c]
      rfl
    · rw [if_neg c, if_neg c]
      rfl
  rw [e]
  rfl
theorem st_cut : stpG g (15, a, b, c) = updG g a.toNat (g b.toNat &&& cF) := rfl
theorem st_mov : stpG g (1, a, b, c) = updG g a.toNat (g b.toNat) := rfl
theorem st_sxt : stpG g (16, a, b, c) = updG g a.toNat (sxt c.toNat (g b.toNat)) := rfl
theorem st_rev : stpG g (17, a, b, c) = updG g a.toNat (turnB c.toNat (g b.toNat)) := rfl
theorem st_ops (h0 : 2 ≤ o) (h1 : o < 15) : stpG g (o, a, b, c) = updG g a.toNat (opsV o (g b.toNat) (g c.toNat)) := funext fun r => by
  show (if r = a.toNat then mqV o b c g else g r) = _
  have e : mqV o b c g = opsV o (g b.toNat) (g c.toNat) := by
    unfold mqV
    have n0 : ¬ o = 0 := by omega
    have n1 : ¬ o = 1 := by omega
    have n15 : ¬ o = 15 := by omega
    have n16 : ¬ o = 16 := by omega
    have n17 : ¬ o = 17 := by omega
    rw [if_neg n0, if_neg n1, if_neg n15, if_neg n16, if_neg n17]
  rw [e]
  rfl
theorem rop_set (ha : 0 ≤ a ∧ a < 16) : ropQ (setQ a x) := ⟨⟨by show (0 : Int) ≤ 0; decide, by show (0 : Int) < 18; decide⟩, ha, fun z => absurd rfl z, fun z => absurd (show (2 : Int) ≤ 0 from z) (by decide), fun z => absurd (show (0 : Int) = 16 from z) (by decide), fun z => absurd (show (0 : Int) = 17 from z) (by decide)⟩
theorem rop_ops (h0 : 2 ≤ o) (h1 : o < 15) (ha : 0 ≤ a ∧ a < 16) (hb : 0 ≤ b ∧ b < 16) (hc : 0 ≤ c ∧ c < 16) : ropQ (o, a, b, c) := by
  unfold ropQ
  show rqok o a b c
  unfold rqok
  exact ⟨⟨by omega, by omega⟩, ha, fun _ => hb, fun _ _ => hc, fun z => by omega, fun z => by omega⟩
theorem rop_1 (ho : o = 1 ∨ o = 15) (ha : 0 ≤ a ∧ a < 16) (hb : 0 ≤ b ∧ b < 16) : ropQ (o, a, b, c) := by
  unfold ropQ
  show rqok o a b c
  unfold rqok
  exact ⟨⟨by omega, by omega⟩, ha, fun _ => hb, fun z z2 => by omega, fun z => by omega, fun z => by omega⟩
theorem rop_sxt (ha : 0 ≤ a ∧ a < 16) (hb : 0 ≤ b ∧ b < 16) (hc : 1 ≤ c ∧ c < 64) : ropQ (16, a, b, c) := by
  unfold ropQ
  show rqok 16 a b c
  unfold rqok
  exact ⟨⟨by omega, by omega⟩, ha, fun _ => hb, fun z z2 => by omega, fun _ => hc, fun z => by omega⟩
theorem rop_rev (ha : 0 ≤ a ∧ a < 16) (hb : 0 ≤ b ∧ b < 16) (hc : 0 ≤ c ∧ c ≤ 8) : ropQ (17, a, b, c) := by
  unfold ropQ
  show rqok 17 a b c
  unfold rqok
  exact ⟨⟨by omega, by omega⟩, ha, fun _ => hb, fun z z2 => by omega, fun z => by omega, fun _ => hc⟩
theorem rop_haf {sg : Prop} {ds : Decidable sg} (ha : 0 ≤ a ∧ a < 16) (hb : 0 ≤ b ∧ b < 16) : ropQ (@hafQ a b sg ds) := by
  unfold hafQ
  by_cases c : sg
  · rw [if_pos c]
    exact rop_sxt ha hb (by decide)
  · rw [if_neg c]
    exact rop_1 (Or.inr rfl) ha hb
/-! what a list of them does to register d -/
def resQ (L : List Q4) (g : Nat → B64) (d : Nat) (v : B64) : Prop := (∀ q ∈ L, ropQ q) ∧ runG L g d = v ∧ ∀ r, r ≤ 10 → ¬ r = d → runG L g r = g r
theorem rq_n : ∀ q ∈ ([] : List Q4), ropQ q := fun q h => by cases h
theorem rq_c {q : Q4} {L : List Q4} (h : ropQ q) (hl : ∀ r ∈ L, ropQ r) : ∀ r ∈ q :: L, ropQ r := fun r hr => by
  rcases List.mem_cons.mp hr with e | e
  · rw [e]
    exact h
  · exact hl r e
theorem rq_a {L1 L2 : List Q4} (h1 : ∀ q ∈ L1, ropQ q) (h2 : ∀ q ∈ L2, ropQ q) : ∀ q ∈ L1 ++ L2, ropQ q := fun r hr => by
  rcases List.mem_append.mp hr with e | e
  · exact h1 r e
  · exact h2 r e
theorem rs_cut {L : List Q4} (d9 : fD w ≤ 9) (h : resQ L g (dR w) v) : resQ (L ++ (if fL w = 7 then [] else [(15, fD w, fD w, 0)])) g (dR w) (if fL w = 7 then v else v &&& cF) := by
  have fr := fld_rng w
  have D : 0 ≤ fD w ∧ fD w < 16 := fr.2.1
  obtain ⟨h1, h2, h3⟩ := h
  by_cases l : fL w = 7
  · rw [if_pos l, if_pos l, List.append_nil]
    exact ⟨h1, h2, h3⟩
  · rw [if_neg l, if_neg l]
    refine ⟨rq_a h1 (rq_c (rop_1 (Or.inr rfl) D D) rq_n), ?_, fun r hr hn => ?_⟩
    · rw [runG_a]
      show stpG (runG L g) (15, fD w, fD w, 0) (dR w) = _
      rw [st_cut]
      show updG (runG L g) (dR w) (runG L g (dR w) &&& cF) (dR w) = _
      rw [ug_s, h2]
    · rw [runG_a]
      show stpG (runG L g) (15, fD w, fD w, 0) r = _
      rw [st_cut]
      show updG (runG L g) (dR w) (runG L g (dR w) &&& cF) r = _
      rw [ug_n hn]
      exact h3 r hr hn
/-- the other side -/
def sdG (g : Nat → B64) (w : B64) : B64 := if rgt w then g (sRr w) else iL (fI w)
theorem sid_v (hs : rgt w → fS w ≤ 10) : (∀ q ∈ sidL w, ropQ q) ∧ (∀ r, r ≤ 10 → runG (sidL w) g r = g r) ∧ runG (sidL w) g (sidR w).toNat = sdG g w ∧ (0 ≤ sidR w ∧ sidR w < 16) ∧ ¬ (sidR w).toNat = 11 ∧ ¬ (sidR w).toNat = 13 := by
  have fr := fld_rng w
  unfold sidL sidR sdG
  by_cases c : rgt w
  · have := hs c
    rw [if_pos c, if_pos c, if_pos c]
    exact ⟨rq_n, fun _ _ => rfl, rfl, by omega, by omega, by omega⟩
  · rw [if_neg c, if_neg c, if_neg c]
    have ri := rng_I (w := w)
    have e : runG [setQ 12 (fI w)] g = updG g 12 (iL (fI w)) := by
      show stpG g (setQ 12 (fI w)) = _
      rw [st_set ri.1 ri.2]
      rfl
    rw [e]
    refine ⟨rq_c (rop_set (by decide)) rq_n, fun r hr => ug_n (by omega), ?_, by decide, by decide, by decide⟩
    show updG g 12 (iL (fI w)) 12 = _
    rw [ug_s]
/-- one operation over both sides -/
theorem rs_sid {q : Q4} (d9 : fD w ≤ 9) (hs : rgt w → fS w ≤ 10) (hq : ropQ q) (e : ∀ h : Nat → B64, stpG h q = updG h (dR w) (F (h (dR w)) (h (sidR w).toNat))) : resQ (sidL w ++ [q]) g (dR w) (F (g (dR w)) (sdG g w)) := by
  obtain ⟨s1, s2, s3, s4, s5, s6⟩ := sid_v (g := g) hs
  have fr := fld_rng w
  have d10 : dR w ≤ 10 := by show (fD w).toNat ≤ 10; omega
  refine ⟨rq_a s1 (rq_c hq rq_n), ?_, fun r hr hn => ?_⟩
  · rw [runG_a]
    show stpG (runG (sidL w) g) q (dR w) = _
    rw [e, ug_s, s2 _ d10, s3]
  · rw [runG_a]
    show stpG (runG (sidL w) g) q r = _
    rw [e, ug_n hn, s2 r hr]
theorem and_31 : ((v &&& iL 31).toNat % 64) = (v &&& cF).toNat % 32 := by
  rw [nat_cF, BitVec.toNat_and]
  have e : v.toNat &&& (iL 31).toNat = v.toNat % 32 := Nat.and_two_pow_sub_one_eq_mod v.toNat 5
  rw [e]
  omega
theorem opQ_b : 2 ≤ opQ c o ∧ opQ c o < 15 := by
  unfold opQ
  repeat' split
  all_goals omega
theorem hal_v (d9 : fD w ≤ 9) (hy : 0 ≤ y ∧ y < 16) (y11 : ¬ y.toNat = 11) (y13 : ¬ y.toNat = 13) (hc : okC (fC w) (fO w)) (c1 : ¬ fC w = 128) (c2 : ¬ fC w = 176) : (∀ q ∈ halQ w y, ropQ q) ∧ runG (halQ w y) g (dR w) &&& cF = reckA (fC w) (fO w) false (g (dR w) &&& cF) (g y.toNat &&& cF) &&& cF ∧ ∀ r, r ≤ 10 → ¬ r = dR w → runG (halQ w y) g r = g r := by
  have fr := fld_rng w
  have D : 0 ≤ fD w ∧ fD w < 16 := fr.2.1
  have d11 : ¬ dR w = 11 := by show ¬ (fD w).toNat = 11; omega
  have d12 : ¬ dR w = 12 := by show ¬ (fD w).toNat = 12; omega
  have d13 : ¬ dR w = 13 := by show ¬ (fD w).toNat = 13; omega
  obtain ⟨ob, ob'⟩ := opQ_b (c := fC w) (o := fO w)
  have b11 : (0 : Int) ≤ 11 ∧ (11 : Int) < 16 := by decide
  have b12 : (0 : Int) ≤ 12 ∧ (12 : Int) < 16 := by decide
  have b13 : (0 : Int) ≤ 13 ∧ (13 : Int) < 16 := by decide
  have eR : reckA (fC w) (fO w) false (g (dR w) &&& cF) (g y.toNat &&& cF) = reck (fC w) (fO w) false (g (dR w) &&& cF) (g y.toNat &&& cF) := by
    unfold reckA
    rw [if_neg c1, if_neg c2]
  rw [eR]
  have sx : ∀ v : B64, sxt 32 (v &&& cF) = sxt 32 v := fun v => (sxt_eq _ _).mpr (cF_cF v)
  unfold halQ
  by_cases q1 : fC w = 48 ∨ fC w = 144
  · rw [if_pos q1]
    have e : runG [hafQ 11 (fD w) (fO w = 1), hafQ 12 y (fO w = 1), (opQ (fC w) (fO w), fD w, 11, 12)] g = updG (updG (updG g 11 (if fO w = 1 then sxt 32 (g (dR w)) else g (dR w) &&& cF)) 12 (if fO w = 1 then sxt 32 (g y.toNat) else g y.toNat &&& cF)) (dR w) (opsV (opQ (fC w) (fO w)) (if fO w = 1 then sxt 32 (g (dR w)) else g (dR w) &&& cF) (if fO w = 1 then sxt 32 (g y.toNat) else g y.toNat &&& cF)) := by
      obtain ⟨A, hA⟩ : ∃ A, A = (if fO w = 1 then sxt 32 (g (dR w)) else g (dR w) &&& cF) := ⟨_, rfl⟩
      obtain ⟨B, hB⟩ : ∃ B, B = (if fO w = 1 then sxt 32 (g y.toNat) else g y.toNat &&& cF) := ⟨_, rfl⟩
      have e1 : stpG g (hafQ 11 (fD w) (fO w = 1)) = updG g 11 A := by
        rw [st_haf, hA]
        rfl
      have y1 : updG g 11 A y.toNat = g y.toNat := ug_n y11
      have e2 : stpG (updG g 11 A) (hafQ 12 y (fO w = 1)) = updG (updG g 11 A) 12 B := by
        rw [st_haf, y1, hB]
        rfl
      have z1 : updG (updG g 11 A) 12 B (Int.toNat 11) = A := (ug_n (by decide)).trans ug_s
      have z2 : updG (updG g 11 A) 12 B (Int.toNat 12) = B := ug_s
      show stpG (stpG (stpG g (hafQ 11 (fD w) (fO w = 1))) (hafQ 12 y (fO w = 1))) (opQ (fC w) (fO w), fD w, 11, 12) = _
      rw [e1, e2, st_ops ob ob', z1, z2, ← hA, ← hB]
    refine ⟨rq_c (rop_haf b11 D) (rq_c (rop_haf b12 hy) (rq_c (rop_ops ob ob' D b11 b12) rq_n)), ?_, fun r hr hn => ?_⟩
    · rw [e, ug_s]
      rcases q1 with z | z
      · rcases hc.2.1 (Or.inl z) with y0 | y1
        · rw [z, y0]
          rfl
        · rw [z, y1]
          show BitVec.sdiv (sxt 32 (g (dR w))) (sxt 32 (g y.toNat)) &&& cF = BitVec.sdiv (sxt 32 (g (dR w) &&& cF)) (sxt 32 (g y.toNat &&& cF)) &&& cF
          rw [sx, sx]
      · rcases hc.2.1 (Or.inr z) with y0 | y1
        · rw [z, y0]
          rfl
        · rw [z, y1]
          show BitVec.srem (sxt 32 (g (dR w))) (sxt 32 (g y.toNat)) &&& cF = BitVec.srem (sxt 32 (g (dR w) &&& cF)) (sxt 32 (g y.toNat &&& cF)) &&& cF
          rw [sx, sx]
    · rw [e, ug_n hn, ug_n (by omega), ug_n (by omega)]
  · rw [if_neg q1]
    by_cases q2 : fC w = 96 ∨ fC w = 112 ∨ fC w = 192
    · rw [if_pos q2]
      have e : runG [setQ 13 31, (10, 12, y, 13), hafQ 11 (fD w) (fC w = 192), (opQ (fC w) (fO w), fD w, 11, 12)] g = updG (updG (updG (updG g 13 (iL 31)) 12 (g y.toNat &&& iL 31)) 11 (if fC w = 192 then sxt 32 (g (dR w)) else g (dR w) &&& cF)) (dR w) (opsV (opQ (fC w) (fO w)) (if fC w = 192 then sxt 32 (g (dR w)) else g (dR w) &&& cF) (g y.toNat &&& iL 31)) := by
        obtain ⟨A, hA⟩ : ∃ A, A = (if fC w = 192 then sxt 32 (g (dR w)) else g (dR w) &&& cF) := ⟨_, rfl⟩
        obtain ⟨B, hB⟩ : ∃ B, B = g y.toNat &&& iL 31 := ⟨_, rfl⟩
        have e1 : stpG g (setQ 13 31) = updG g 13 (iL 31) := st_set (by decide) (by decide)
        have y1 : updG g 13 (iL 31) y.toNat = g y.toNat := ug_n y13
        have y2 : updG g 13 (iL 31) (Int.toNat 13) = iL 31 := ug_s
        have e2 : stpG (updG g 13 (iL 31)) (10, 12, y, 13) = updG (updG g 13 (iL 31)) 12 B := by
          rw [st_ops (by decide) (by decide), y1, y2, hB]
          rfl
        have y3 : updG (updG g 13 (iL 31)) 12 B (fD w).toNat = g (dR w) := (ug_n d12).trans (ug_n d13)
        have e3 : stpG (updG (updG g 13 (iL 31)) 12 B) (hafQ 11 (fD w) (fC w = 192)) = updG (updG (updG g 13 (iL 31)) 12 B) 11 A := by
          rw [st_haf, y3, hA]
          rfl
        have z1 : updG (updG (updG g 13 (iL 31)) 12 B) 11 A (Int.toNat 11) = A := ug_s
        have z2 : updG (updG (updG g 13 (iL 31)) 12 B) 11 A (Int.toNat 12) = B := (ug_n (by decide)).trans ug_s
        show stpG (stpG (stpG (stpG g (setQ 13 31)) (10, 12, y, 13)) (hafQ 11 (fD w) (fC w = 192))) (opQ (fC w) (fO w), fD w, 11, 12) = _
        rw [e1, e2, e3, st_ops ob ob', z1, z2, ← hA, ← hB]
      refine ⟨rq_c (rop_set b13) (rq_c (rop_ops (by decide) (by decide) b12 hy b13) (rq_c (rop_haf b11 D) (rq_c (rop_ops ob ob' D b11 b12) rq_n))), ?_, fun r hr hn => ?_⟩
      · rw [e, ug_s]
        rcases q2 with z | z | z
        · rw [z]
          show ((g (dR w) &&& cF) <<< ((g y.toNat &&& iL 31).toNat % 64)) &&& cF = ((g (dR w) &&& cF) <<< ((g y.toNat &&& cF).toNat % 32)) &&& cF
          rw [and_31]
        · rw [z]
          show ((g (dR w) &&& cF) >>> ((g y.toNat &&& iL 31).toNat % 64)) &&& cF = ((g (dR w) &&& cF) >>> ((g y.toNat &&& cF).toNat % 32)) &&& cF
          rw [and_31]
        · rw [z]
          show ((sxt 32 (g (dR w))).sshiftRight ((g y.toNat &&& iL 31).toNat % 64)) &&& cF = ((sxt 32 (g (dR w) &&& cF)).sshiftRight ((g y.toNat &&& cF).toNat % 32)) &&& cF
          rw [and_31, sx]
      · rw [e, ug_n hn, ug_n (by omega), ug_n (by omega), ug_n (by omega)]
    · rw [if_neg q2]
      have e : runG [(opQ (fC w) (fO w), fD w, fD w, y)] g = updG g (dR w) (opsV (opQ (fC w) (fO w)) (g (dR w)) (g y.toNat)) := by
        show stpG g (opQ (fC w) (fO w), fD w, fD w, y) = _
        rw [st_ops ob ob']
      refine ⟨rq_c (rop_ops ob ob' D D hy) rq_n, ?_, fun r hr hn => ?_⟩
      · rw [e, ug_s]
        rcases hc.1 with z | z | z | z | z | z | z | z | z | z | z | z | z
        · rw [z]
          exact cut_add.symm
        · rw [z]
          exact cut_sub.symm
        · rw [z]
          exact cut_mul.symm
        · exact absurd (Or.inl z) q1
        · rw [z]
          exact cut_or.symm
        · rw [z]
          exact cut_and.symm
        · exact absurd (Or.inl z) q2
        · exact absurd (Or.inr (Or.inl z)) q2
        · exact absurd z c1
        · exact absurd (Or.inr z) q1
        · rw [z]
          exact cut_xor.symm
        · exact absurd z c2
        · exact absurd (Or.inr (Or.inr z)) q2
      · rw [e, ug_n hn]
end CALU
