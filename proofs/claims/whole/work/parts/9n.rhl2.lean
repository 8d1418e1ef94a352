/-! ===== the reference's runs: COPY, TRIM, RECORD, FINISH, DROP ===== -/
section RHL2
variable {σ τ ρ υ : MS} {c c' : TC WR} {W V : WR} {w x A a F v : B64} {r f b k n o s m e : Nat} {l key val : List Int} {y nx hh : Int} {E : EV} {S : Nat → Nat → MB} {u : SV}
theorem wrS_c {y : B64} {L : List B64} : wrS σ o b (y :: L) = wrS (sI σ (cellR o) (plcR o b) (kpW y)) o (b + 1) L := rfl
theorem w8_kp (y : Int) : w8 y = kpW (byW y) := by
  unfold kpW byW
  rw [BitVec.toInt_ofInt, Int.bmod_eq_of_le (by omega) (by omega)]
  unfold w8
  exact (Int.emod_bmod y 256).symm
theorem L565 {x3 : B64} {N a : Nat} {is : Bool} (ho : 2 ≤ o ∧ o ≤ 5) (e3 : x3 = adR o + BitVec.ofNat 64 b) (hN : N ≤ 128) (ob : ∀ i, i < N → obR o (b + i)) (hx : is = true → a + N ≤ 256) (xa : is = true → x = BitVec.ofNat 64 a) : ∀ (f j : Nat) (ρ : MS), j + f = N → RR (lkB tb565) (B565_38, [some (mR (some 80)), some (mL x), none, some (mL x3), none, some (mI (N : Int)), some (mI (bI is)), some (mI (j : Int))], [], ρ) = some (some (mL (if is = true then 0#64 else iL (-14))), wrS ρ o (b + j) ((List.range' j f).map fun i => if is = true then byW (gI ρ 144 (a + i)) else 0#64)) := by
  intro f
  induction f with
  | zero =>
    intro j ρ z
    have z : j = N := by omega
    subst z
    rw [e565_38, if_pos (Int.le_refl _)]
    cases is with
    | true => rw [if_neg (by decide), if_pos rfl]; rfl
    | false => rw [if_pos (by decide), if_neg (by decide)]; rfl
  | succ f ih =>
    intro j ρ z
    have nl : ¬ (N : Int) ≤ (j : Int) := by omega
    have oj := ob j (by omega)
    have cr : cellR o = 147 := (cpo_s (b := 0) ho).1
    have j3 : j < 100000 := by omega
    have ea : x3 + iL (j : Int) = adR o + BitVec.ofNat 64 (b + j) := by rw [e3, ad_s, nat_s]
    have same : ∀ (i : Nat) (y : Int), gI (sI ρ (cellR o) (plcR o (b + j)) y) 144 i = gI ρ 144 i := fun i y => by
      rw [gI_sI, if_neg (by omega)]
    rw [List.range'_succ, List.map_cons, wrS_c]
    cases hi : is with
    | true =>
      rw [hi] at hx xa ih
      have xa := xa rfl
      have hx := hx rfl
      have b2 : 0 ≤ ((a + j : Nat) : Int) ∧ ((a + j : Nat) : Int) < 256 := by omega
      have l0 : -2147483648 ≤ (a : Int) ∧ (a : Int) < 2147483648 := by omega
      have l1 : a < 3000 ∧ j < 100 ∨ a < 3000 ∧ j < 200 := by omega
      have la : lI x = (a : Int) := by
        rw [xa, iLnat]
        exact lI_s l0
      have s1 : -2147483648 ≤ (a : Int) + (j : Int) ∧ (a : Int) + (j : Int) < 2147483648 := by omega
      have z2 := ih (j + 1) (sI ρ (cellR o) (plcR o (b + j)) (w8 (gI ρ 144 (a + j)))) (by omega)
      have wp : w32 (lI x + (j : Int)) = ((a + j : Nat) : Int) := by
        rw [la, w32_i s1.1 s1.2]
        rfl
      have ww : w32 ((j : Int) + 1) = ((j + 1 : Nat) : Int) := w32_s j3
      have t := T554 (σ := ρ) (v := gI ρ 144 (a + j)) oj
      rw [← ea] at t
      rw [e565_38, if_neg nl, if_neg (by decide)]
      simp only [Option.getD_some, Option.bind_some, Option.toList_some, Option.toList_none, List.cons_append, List.nil_append, and_self, and_true, true_and, false_and, and_false, ite_self, not_true_eq_false, not_false_eq_true, reduceIte, Nat.reduceEqDiff, ab_I, ab_L, ab_R, ao_I, ao_L, ao_R, gL_sL, gI_sI, gR_sR, gI_sL, gI_sR, gL_sI, gL_sR, gR_sI, gR_sL, g_144, b2.1, b2.2, wp, Int.toNat_natCast, e565_70, t, e565_73, ww]
      rw [if_pos rfl] at z2
      rw [z2]
      simp only [same, if_true, w8_kp (gI ρ 144 (a + j))]
      rfl
    | false =>
      rw [hi] at ih
      have z2 := ih (j + 1) (sI ρ (cellR o) (plcR o (b + j)) (w8 0)) (by omega)
      have ww : w32 ((j : Int) + 1) = ((j + 1 : Nat) : Int) := w32_s j3
      have t := T554 (σ := ρ) (v := 0) oj
      rw [← ea] at t
      rw [e565_38, if_neg nl, if_pos (show bI false = 0 from rfl), e565_70, t]
      simp only [Option.getD_some, Option.bind_some, Option.toList_some, Option.toList_none, List.cons_append, List.nil_append, and_self, and_true, true_and, false_and, and_false, ite_self, not_true_eq_false, not_false_eq_true, reduceIte, Nat.reduceEqDiff, ab_I, ab_L, ab_R, ao_I, ao_L, ao_R, gL_sL, gI_sI, gR_sR, gI_sL, gI_sR, gL_sI, gL_sR, gR_sI, gR_sL, e565_73, ww]
      rw [if_neg (by decide)] at z2
      rw [z2]
      rfl
theorem wrB_s {y : B64} (ho : 2 ≤ o ∧ o ≤ 5) (e : wrB RB c o b y = some c') : c' = (cP c, cN c, cR c, cS c', cB c, cW c) := by
  unfold wrB at e
  rw [if_pos ho] at e
  split at e
  · cases e
    rfl
  · cases e
theorem wrL_s (ho : 2 ≤ o ∧ o ≤ 5) : ∀ (L : List B64) {b : Nat} {c c' : TC WR}, wrL RB c o b L = some c' → c' = (cP c, cN c, cR c, cS c', cB c, cW c) := by
  intro L
  induction L with
  | nil => intro b c c' e; cases e; rfl
  | cons v L ih =>
    intro b c c' e
    unfold wrL at e
    split at e
    · rename_i c1 h1
      have q := wrB_s ho h1
      have z := ih e
      rw [q] at z
      exact z
    · cases e
theorem hp_26 (h : RelR σ c) (hI : invW (cW c)) (e : hpT RB RH E c 26 nx = some (k, c')) : hpo σ c 26 nx k c' := by
  unfold hpT at e
  rw [if_neg (by decide), if_neg (by decide), if_neg (by decide), if_neg (by decide), if_neg (by decide), if_pos rfl] at e
  by_cases q : ¬ (rdR c 2).1 = 0 ∨ ¬ (2 ≤ (rdR c 3).1 ∧ (rdR c 3).1 ≤ 5) ∨ ¬ ((rdR c 4).1 = 0 ∧ 1 ≤ (rdR c 4).2.toNat ∧ (rdR c 4).2.toNat ≤ 128)
  · rw [if_pos q] at e
    cases e
  · rw [if_neg q] at e
    obtain ⟨N, hN⟩ : ∃ N : Nat, N = (rdR c 4).2.toNat := ⟨_, rfl⟩
    obtain ⟨x, hx⟩ : ∃ x, x = (rdR c 2).2 := ⟨_, rfl⟩
    obtain ⟨o, ho⟩ : ∃ o, o = (rdR c 3).1 := ⟨_, rfl⟩
    obtain ⟨b, hb⟩ : ∃ b, b = (rdR c 3).2.toNat := ⟨_, rfl⟩
    rw [← hN, ← ho] at q
    have fe : RH.2.2.2.2.2.2.2.2.2.1 (cW c) (rdR c 2).2 (rdR c 4).2.toNat = pktR (cW c) x N := by
      rw [hx, hN]
      rfl
    rw [fe, ← ho, ← hb] at e
    have z2 : (rdR c 2).1 = 0 := by omega
    have z4 : (rdR c 4).1 = 0 := by omega
    obtain ⟨r2, _⟩ := rd_R h (r := 2) (by decide) (by omega)
    have r2 : gL σ 146 (rpR c 2) = x := (r2.trans (enG_z z2)).trans hx.symm
    obtain ⟨r4, _⟩ := rd_R h (r := 4) (by decide) (by omega)
    have r4 : gL σ 146 (rpR c 4) = (rdR c 4).2 := r4.trans (enG_z z4)
    obtain ⟨e3, k3⟩ := rd_R h (r := 3) (by decide) (by omega)
    have e3 : gL σ 146 (rpR c 3) = adR o + BitVec.ofNat 64 b := by
      rw [e3]
      show enG adR (rdR c 3) = _
      rw [enG_p (by omega), hb, BitVec.ofNat_toNat, BitVec.setWidth_eq, ho]
    have l4 : lI (rdR c 4).2 = (N : Int) := by
      have : (rdR c 4).2 = iL (N : Int) := by
        show _ = BitVec.ofInt 64 (N : Int)
        rw [BitVec.ofInt_natCast, hN, BitVec.ofNat_toNat, BitVec.setWidth_eq]
      rw [this]
      exact lI_s (by omega)
    have wl := RelR_wld h
    have g5 := wld_g wl (k := 80) (s := 105) (by omega)
    have i5 := hI.2.2.2.1.1
    obtain ⟨P, hP⟩ : ∃ P : Nat, P = (wg (cW c) 80 105).toNat := ⟨_, rfl⟩
    have eP : gI σ 80 105 = (P : Int) := by omega
    obtain ⟨a, ha⟩ : ∃ a : Nat, a = x.toNat := ⟨_, rfl⟩
    have xa : x = BitVec.ofNat 64 a := by rw [ha, BitVec.ofNat_toNat, BitVec.setWidth_eq]
    obtain ⟨is, his⟩ : ∃ is : Bool, is = decide (a + N ≤ P) := ⟨_, rfl⟩
    have pk : pktR (cW c) x N = ((List.range' 0 N).map (fun i => if is = true then byW (gI σ 144 (a + i)) else 0#64), if is = true then 0#64 else iL (-14)) := by
      unfold pktR
      rw [← ha, ← List.range_eq_range']
      by_cases z : (a : Int) + (N : Int) ≤ wg (cW c) 80 105
      · have it : is = true := by rw [his]; exact decide_eq_true (by omega)
        rw [if_pos z, it]
        refine Prod.ext ?_ rfl
        refine List.map_congr_left fun i _ => ?_
        rw [if_pos rfl, wld_g wl (k := 144) (by omega)]
      · have it : is = false := by rw [his]; exact decide_eq_false (by omega)
        rw [if_neg z, it]
        refine Prod.ext ?_ rfl
        show List.replicate N 0#64 = (List.range N).map fun i => if false = true then _ else 0#64
        refine List.ext_getElem (by rw [List.length_replicate, List.length_map, List.length_range]) fun i h1 h2 => ?_
        rw [List.getElem_replicate, List.getElem_map, if_neg (by decide)]
    -- whether it lies in the packet
    have s33 : MM 565 [mR (some 80), mL x, mL (gL σ 146 (rpR c 3)), mI (N : Int)] σ = RR (lkB tb565) (B565_38, [some (mR (some 80)), some (mL x), none, some (mL (gL σ 146 (rpR c 3))), none, some (mI (N : Int)), some (mI (bI is)), some (mI 0)], [], σ) := by
      have t1 : (iL (P : Int) + BitVec.ofNat 64 1).toNat = P + 1 := by
        rw [show iL (P : Int) = BitVec.ofNat 64 P from (iLnat P).symm, nat_s, BitVec.toNat_ofNat]
        omega
      by_cases z : a < P + 1
      · have lt : x < iL (P : Int) + BitVec.ofNat 64 1 := by
          rw [BitVec.lt_def, t1]
          omega
        have t2 : (x + iL (N : Int)).toInt = ((a + N : Nat) : Int) := by
          rw [xa, show iL (N : Int) = BitVec.ofNat 64 N from (iLnat N).symm, nat_s, toInt_c, BitVec.toNat_ofNat]
          split <;> omega
        have t3 : (iL (P : Int)).toInt = (P : Int) := by
          show (BitVec.ofInt 64 (P : Int)).toInt = _
          rw [BitVec.toInt_ofInt, Int.bmod_eq_of_le (by omega) (by omega)]
        by_cases z2 : a + N ≤ P
        · have it : is = true := by rw [his]; exact decide_eq_true z2
          have n1 : ¬ (P : Int) < ((a + N : Nat) : Int) := by omega
          rw [it, show bI true = 1 from rfl]
          simp only [M565, e565_0, Option.getD_some, Option.bind_some, Option.toList_some, Option.toList_none, List.cons_append, List.nil_append, and_self, and_true, true_and, false_and, and_false, ite_self, not_true_eq_false, not_false_eq_true, reduceIte, Nat.reduceEqDiff, ab_I, ab_L, ab_R, ao_I, ao_L, ao_R, gL_sL, gI_sI, gR_sR, gI_sL, gI_sR, gL_sI, gL_sR, gR_sI, gR_sL, eP, T389, b2_yes lt]
          rw [e565_11]
          simp only [Option.getD_some, Option.bind_some, Option.toList_some, Option.toList_none, List.cons_append, List.nil_append, and_self, and_true, true_and, false_and, and_false, ite_self, not_true_eq_false, not_false_eq_true, reduceIte, Nat.reduceEqDiff, ab_I, ab_L, ab_R, ao_I, ao_L, ao_R, gL_sL, gI_sI, gR_sR, gI_sL, gI_sR, gL_sI, gL_sR, gR_sI, gR_sL, eP, t2, t3, n1, show ¬ (1 : Int) = 0 by decide, if_false, e565_33]
        · have it : is = false := by rw [his]; exact decide_eq_false z2
          have n1 : (P : Int) < ((a + N : Nat) : Int) := by omega
          rw [it, show bI false = 0 from rfl]
          simp only [M565, e565_0, Option.getD_some, Option.bind_some, Option.toList_some, Option.toList_none, List.cons_append, List.nil_append, and_self, and_true, true_and, false_and, and_false, ite_self, not_true_eq_false, not_false_eq_true, reduceIte, Nat.reduceEqDiff, ab_I, ab_L, ab_R, ao_I, ao_L, ao_R, gL_sL, gI_sI, gR_sR, gI_sL, gI_sR, gL_sI, gL_sR, gR_sI, gR_sL, eP, T389, b2_yes lt]
          rw [e565_11]
          simp only [Option.getD_some, Option.bind_some, Option.toList_some, Option.toList_none, List.cons_append, List.nil_append, and_self, and_true, true_and, false_and, and_false, ite_self, not_true_eq_false, not_false_eq_true, reduceIte, Nat.reduceEqDiff, ab_I, ab_L, ab_R, ao_I, ao_L, ao_R, gL_sL, gI_sI, gR_sR, gI_sL, gI_sR, gL_sI, gL_sR, gR_sI, gR_sL, eP, t2, t3, n1, show ¬ (1 : Int) = 0 by decide, if_false, if_true, e565_32, e565_33]
      · have lt : ¬ x < iL (P : Int) + BitVec.ofNat 64 1 := by
          rw [BitVec.lt_def, t1]
          omega
        have it : is = false := by rw [his]; exact decide_eq_false (by omega)
        rw [it, show bI false = 0 from rfl]
        simp only [M565, e565_0, Option.getD_some, Option.bind_some, Option.toList_some, Option.toList_none, List.cons_append, List.nil_append, and_self, and_true, true_and, false_and, and_false, ite_self, not_true_eq_false, not_false_eq_true, reduceIte, Nat.reduceEqDiff, ab_I, ab_L, ab_R, ao_I, ao_L, ao_R, gL_sL, gI_sI, gR_sR, gI_sL, gI_sR, gL_sI, gL_sR, gR_sI, gR_sL, eP, T389, b2_no lt]
        rw [e565_11]
        simp only [Option.getD_some, Option.bind_some, Option.toList_some, Option.toList_none, List.cons_append, List.nil_append, and_self, and_true, true_and, false_and, and_false, ite_self, not_true_eq_false, not_false_eq_true, reduceIte, Nat.reduceEqDiff, ab_I, ab_L, ab_R, ao_I, ao_L, ao_R, gL_sL, gI_sI, gR_sR, gI_sL, gI_sR, gL_sI, gL_sR, gR_sI, gR_sL, if_true, e565_32, e565_33]
    cases ew : wrL RB c o b (pktR (cW c) x N).1 with
    | none =>
      rw [ew] at e
      cases e
    | some c1 =>
      rw [ew] at e
      have e : bhT c (cS c1) (cW c) (0, (pktR (cW c) x N).2) nx = some (k, c') := e
      have by_ : ∀ y ∈ (pktR (cW c) x N).1, y.toNat < 256 := (RH_ok.2.2.2.2.2.2.2.2.1 (cW c) x N).2
      have len : (pktR (cW c) x N).1.length = N := (RH_ok.2.2.2.2.2.2.2.2.1 (cW c) x N).1
      obtain ⟨ob, rel⟩ := wrL_R' _ _ σ c h by_ ew
      rw [len] at ob
      have t := L565 (x := x) (is := is) (by omega) e3 (by omega) ob (fun z => by
        rw [his] at z
        have := of_decide_eq_true z
        omega) (fun _ => xa) N 0 σ (by omega)
      rw [Nat.add_zero] at t
      have p1 : (pktR (cW c) x N).1 = _ := congrArg Prod.fst pk
      have p2 : (pktR (cW c) x N).2 = _ := congrArg Prod.snd pk
      have p1 : (pktR (cW c) x N).1 = (List.range' 0 N).map (fun i => if is = true then byW (gI σ 144 (a + i)) else 0#64) := p1
      have p2 : (pktR (cW c) x N).2 = if is = true then 0#64 else iL (-14) := p2
      rw [← p1, ← p2] at t
      have o0 := ob 0 (by omega)
      have h4 : ∀ s, gI (wrS σ o b (pktR (cW c) x N).1) 80 s = gI σ 80 s := fun s => by
        rw [wrS_g, if_neg (fun z => by have := cell_R o0; omega)]
      have rel : RelR (wrS σ o b (pktR (cW c) x N).1) (cP c, cN c, cR c, cS c1, cB c, cW c) := by
        rw [← wrL_s (by omega) _ ew]
        exact rel
      refine hpo_b (v := (pktR (cW c) x N).2) (τ := wrS σ o b (pktR (cW c) x N).1) ?_ (mvR_w o0) (fun s _ => h4 s) rel enG_0.symm okSV_0 e
      rw [L563 h, r2, r4, e563_51]
      simp only [Option.getD_some, Option.bind_some, Option.toList_some, Option.toList_none, List.cons_append, List.nil_append, and_self, and_true, true_and, false_and, and_false, ite_self, not_true_eq_false, not_false_eq_true, reduceIte, Nat.reduceEqDiff, ab_I, ab_L, ab_R, ao_I, ao_L, ao_R, gL_sL, gI_sI, gR_sR, gI_sL, gI_sR, gL_sI, gL_sR, gR_sI, gR_sL, Int.reduceEq, if_true, if_false, l4, s33]
      have t : RR (lkB tb565) (B565_38, [some (mR (some 80)), some (mL x), none, some (mL (gL σ 146 (rpR c 3))), none, some (mI (N : Int)), some (mI (bI is)), some (mI 0)], [], σ) = _ := t
      rw [t]
      simp only [Option.getD_some, Option.bind_some, Option.toList_some, Option.toList_none, List.cons_append, List.nil_append, and_self, and_true, true_and, false_and, and_false, ite_self, not_true_eq_false, not_false_eq_true, reduceIte, Nat.reduceEqDiff, ab_I, ab_L, ab_R, ao_I, ao_L, ao_R, gL_sL, gI_sI, gR_sR, gI_sL, gI_sR, gL_sI, gL_sR, gR_sI, gR_sL, e563_376]
/-! TRIM -/
theorem L566u {N d : Nat} (h1 : 1 ≤ d) (hd : N + d ≤ 256) : ∀ (f j : Nat) (ρ : MS), j + f = N → ∃ τ, RR (lkB tb566) (B566_44, [some (mR (some 80)), some (mI (d : Int)), some (mI (N : Int)), some (mI (j : Int))], [], ρ) = some (some (mL (BitVec.ofNat 64 0)), τ) ∧ τ.2 = ρ.2 ∧ ∀ k s, gI τ k s = if k = 80 ∧ s = 105 then (N : Int) else if k = 144 ∧ j ≤ s ∧ s < N then w8 (gI ρ 144 (s + d)) else gI ρ k s := by
  intro f
  induction f with
  | zero =>
    intro j ρ z
    have z : j = N := by omega
    subst z
    refine ⟨sI ρ 80 105 (j : Int), ?_, rfl, fun k s => ?_⟩
    · rw [e566_44, if_pos (Int.le_refl _)]
    · rw [gI_sI]
      by_cases q : k = 80 ∧ s = 105
      · rw [if_pos q, if_pos q]
      · rw [if_neg q, if_neg q, if_neg (by omega)]
  | succ f ih =>
    intro j ρ z
    have nl : ¬ (N : Int) ≤ (j : Int) := by omega
    have b1 : 0 ≤ ((j + d : Nat) : Int) ∧ ((j + d : Nat) : Int) < 256 := by omega
    have b2 : 0 ≤ (j : Int) ∧ (j : Int) < 256 := by omega
    have j3 : j < 100000 := by omega
    have s1 : -2147483648 ≤ (j : Int) + (d : Int) ∧ (j : Int) + (d : Int) < 2147483648 := by omega
    obtain ⟨τ, t1, t2, t3⟩ := ih (j + 1) (sI ρ 144 j (w8 (gI ρ 144 (j + d)))) (by omega)
    refine ⟨τ, ?_, t2, fun k s => ?_⟩
    · have wp : w32 ((j : Int) + (d : Int)) = ((j + d : Nat) : Int) := by
        rw [w32_i s1.1 s1.2]
        rfl
      have ww : w32 ((j : Int) + 1) = ((j + 1 : Nat) : Int) := w32_s j3
      rw [e566_44, if_neg nl]
      simp only [Option.getD_some, Option.bind_some, Option.toList_some, Option.toList_none, List.cons_append, List.nil_append, and_self, and_true, true_and, false_and, and_false, ite_self, not_true_eq_false, not_false_eq_true, reduceIte, Nat.reduceEqDiff, ab_I, ab_L, ab_R, ao_I, ao_L, ao_R, gL_sL, gI_sI, gR_sR, gI_sL, gI_sR, gL_sI, gL_sR, gR_sI, gR_sL, g_144, b1.1, b1.2, b2.1, b2.2, wp, Int.toNat_natCast, ww]
      exact t1
    · rw [t3]
      by_cases q : k = 80 ∧ s = 105
      · rw [if_pos q, if_pos q]
      · rw [if_neg q, if_neg q]
        by_cases q1 : k = 144 ∧ j ≤ s ∧ s < N
        · rw [if_pos q1]
          by_cases q2 : s = j
          · rw [if_neg (by omega), gI_sI, if_pos ⟨q1.1, q2⟩, q2]
          · rw [if_pos (by omega), gI_sI, if_neg (by omega)]
        · rw [if_neg q1, if_neg (by omega), gI_sI, if_neg (by omega)]
theorem L566d {N d : Nat} (hN : N ≤ 256) (hd : d ≤ 256) : ∀ (j : Nat) (ρ : MS), j ≤ N → ∃ τ, RR (lkB tb566) (B566_76, [some (mR (some 80)), some (mI (-(d : Int))), some (mI (N : Int)), some (mI ((j : Int) - 1))], [], ρ) = some (some (mL (BitVec.ofNat 64 0)), τ) ∧ τ.2 = ρ.2 ∧ ∀ k s, gI τ k s = if k = 80 ∧ s = 105 then (N : Int) else if k = 144 ∧ s < j then w8 (if d ≤ s then gI ρ 144 (s - d) else 0) else gI ρ k s := by
  intro j
  induction j with
  | zero =>
    intro ρ _
    refine ⟨sI ρ 80 105 (N : Int), ?_, rfl, fun k s => ?_⟩
    · rw [e566_76, if_pos (by omega)]
    · rw [gI_sI]
      by_cases q : k = 80 ∧ s = 105
      · rw [if_pos q, if_pos q]
      · rw [if_neg q, if_neg q, if_neg (by omega)]
  | succ j ih =>
    intro ρ hj
    have ej : ((j + 1 : Nat) : Int) - 1 = (j : Int) := by omega
    have nl : ¬ (j : Int) < 0 := by omega
    have b2 : 0 ≤ (j : Int) ∧ (j : Int) < 256 := by omega
    have s1 : -2147483648 ≤ (j : Int) + -(d : Int) ∧ (j : Int) + -(d : Int) < 2147483648 := by omega
    have s2 : -2147483648 ≤ (j : Int) + (-1) ∧ (j : Int) + (-1) < 2147483648 := by omega
    have e1 : (j : Int) + (-1) = (j : Int) - 1 := by omega
    obtain ⟨τ, t1, t2, t3⟩ := ih (sI ρ 144 j (w8 (if d ≤ j then gI ρ 144 (j - d) else 0))) (by omega)
    refine ⟨τ, ?_, t2, fun k s => ?_⟩
    · rw [ej]
      by_cases q : d ≤ j
      · have b1 : 0 ≤ ((j - d : Nat) : Int) ∧ ((j - d : Nat) : Int) < 256 := by omega
        have n1 : ¬ ((j - d : Nat) : Int) < 0 := by omega
        have e2 : (j : Int) + -(d : Int) = ((j - d : Nat) : Int) := by omega
        have wp : w32 ((j : Int) + -(d : Int)) = ((j - d : Nat) : Int) := by rw [w32_i s1.1 s1.2, e2]
        have ww : w32 ((j : Int) + (-1)) = (j : Int) - 1 := by rw [w32_i s2.1 s2.2, e1]
        rw [if_pos q] at t1
        rw [e566_76, if_neg nl, wp, if_neg n1]
        simp only [Option.getD_some, Option.bind_some, Option.toList_some, Option.toList_none, List.cons_append, List.nil_append, and_self, and_true, true_and, false_and, and_false, ite_self, not_true_eq_false, not_false_eq_true, reduceIte, Nat.reduceEqDiff, ab_I, ab_L, ab_R, ao_I, ao_L, ao_R, gL_sL, gI_sI, gR_sR, gI_sL, gI_sR, gL_sI, gL_sR, gR_sI, gR_sL, g_144, b1.1, b1.2, b2.1, b2.2, Int.toNat_natCast, e566_103, ww]
        exact t1
      · have n1 : (j : Int) + -(d : Int) < 0 := by omega
        have wp : w32 ((j : Int) + -(d : Int)) = (j : Int) + -(d : Int) := w32_i s1.1 s1.2
        have ww : w32 ((j : Int) + (-1)) = (j : Int) - 1 := by rw [w32_i s2.1 s2.2, e1]
        rw [if_neg q] at t1
        rw [e566_76, if_neg nl, wp, if_pos n1]
        simp only [Option.getD_some, Option.bind_some, Option.toList_some, Option.toList_none, List.cons_append, List.nil_append, and_self, and_true, true_and, false_and, and_false, ite_self, not_true_eq_false, not_false_eq_true, reduceIte, Nat.reduceEqDiff, ab_I, ab_L, ab_R, ao_I, ao_L, ao_R, gL_sL, gI_sI, gR_sR, gI_sL, gI_sR, gL_sI, gL_sR, gR_sI, gR_sL, g_144, b2.1, b2.2, Int.toNat_natCast, e566_103, ww]
        exact t1
    · rw [t3]
      by_cases q : k = 80 ∧ s = 105
      · rw [if_pos q, if_pos q]
      · rw [if_neg q, if_neg q]
        by_cases q1 : k = 144 ∧ s < j + 1
        · rw [if_pos q1]
          by_cases q2 : s = j
          · rw [if_neg (by omega), gI_sI, if_pos ⟨q1.1, q2⟩, q2]
          · rw [if_pos (by omega)]
            refine congrArg w8 ?_
            by_cases q3 : d ≤ s
            · rw [if_pos q3, if_pos q3, gI_sI, if_neg (by omega)]
            · rw [if_neg q3, if_neg q3]
        · rw [if_neg q1, if_neg (by omega), gI_sI, if_neg (by omega)]
theorem tri_W (h : wldR σ W) (hI : invW W) : ∃ τ, MM 566 [mR (some 80), mI (lI x)] σ = some (some (mL (triR W x).2), τ) ∧ wldR τ (triR W x).1 ∧ τ.2 = σ.2 ∧ ∀ k s, ¬ (k = 144 ∨ k = 80 ∧ s = 105) → gI τ k s = gI σ k s := by
  have yr : inR (lI x) := w32_in x.toInt
  unfold inR at yr
  obtain ⟨y, hy⟩ : ∃ y, y = lI x := ⟨_, rfl⟩
  obtain ⟨p, hp⟩ : ∃ p, p = wg W 80 105 := ⟨_, rfl⟩
  have gp : gI σ 80 105 = p := (wld_g h (by omega)).trans hp.symm
  have ip := hI.2.2.2.1.1
  rw [← hp] at ip
  rw [← hy] at yr ⊢
  have ty : (iL p - iL y).toInt = p - y := by
    have t1 : (iL p).toInt = p := by
      show (BitVec.ofInt 64 p).toInt = _
      rw [BitVec.toInt_ofInt, Int.bmod_eq_of_le (by omega) (by omega)]
    have t2 : (iL y).toInt = y := by
      show (BitVec.ofInt 64 y).toInt = _
      rw [BitVec.toInt_ofInt, Int.bmod_eq_of_le (by omega) (by omega)]
    rw [BitVec.toInt_sub, t1, t2, Int.bmod_eq_of_le (by omega) (by omega)]
  have t256 : (iL 256).toInt = 256 := by decide
  unfold triR
  rw [← hy, ← hp]
  dsimp only
  have bad : p < y ∨ y < 0 ∧ 256 < p - y → ∃ τ, MM 566 [mR (some 80), mI y] σ = some (some (mL (BitVec.ofInt 64 (-22))), τ) ∧ wldR τ W ∧ τ.2 = σ.2 ∧ ∀ k s, ¬ (k = 144 ∨ k = 80 ∧ s = 105) → gI τ k s = gI σ k s := fun z => by
    refine ⟨σ, ?_, h, rfl, fun _ _ _ => rfl⟩
    by_cases c1 : p < y
    · simp only [M566, e566_0, gp, c1, if_true]
      rfl
    · have z := z.resolve_left c1
      have n0 : ¬ 0 ≤ y := by omega
      have n1 : ¬ p - y ≤ 256 := by omega
      simp only [M566, e566_0, gp, c1, if_false, n0, ty, t256, n1]
      rfl
  by_cases c1 : p < y ∨ y < 0 ∧ 256 < p - y
  · rw [if_pos c1]
    exact bad c1
  · rw [if_neg c1]
    clear bad
    obtain ⟨N, hN⟩ : ∃ N : Nat, N = (p - y).toNat := ⟨_, rfl⟩
    have eN : p - y = (N : Int) := by omega
    have sN : -2147483648 ≤ p - y ∧ p - y < 2147483648 := by omega
    have s31 : MM 566 [mR (some 80), mI y] σ = RR (lkB tb566) (B566_31, [some (mR (some 80)), some (mI y), none, none], [], σ) := by
      have n1 : ¬ p < y := by omega
      by_cases y0 : 0 ≤ y
      · simp only [M566, e566_0, gp, n1, if_false, y0, if_true]
      · have n2 : p - y ≤ 256 := by omega
        simp only [M566, e566_0, gp, n1, if_false, y0, ty, t256, n2, if_true]
    have m3 := hI.2.2.1
    -- what comes out, of what is pointwise so
    have fin : ∀ (τ : MS) (g : Nat → Int), τ.2 = σ.2 → (∀ k s, gI τ k s = if k = 80 ∧ s = 105 then (N : Int) else if k = 144 ∧ s < N then w8 (g s) else gI σ k s) → (∀ s, s < N → g s = if 0 ≤ (s : Int) + y then gI σ 144 ((s : Int) + y).toNat else 0) → wldR τ (wset (fun k s => if k = 144 ∧ (s : Int) < p - y then (if 0 ≤ (s : Int) + y then W.1 144 ((s : Int) + y).toNat else 0) else W.1 k s, W.2) 80 105 (p - y)) ∧ τ.2 = σ.2 ∧ ∀ k s, ¬ (k = 144 ∨ k = 80 ∧ s = 105) → gI τ k s = gI σ k s := fun τ g t2 t3 hg => by
      refine ⟨⟨fun k s q => ?_, ?_, ?_⟩, t2, fun k s z => ?_⟩
      · rw [t3, wg_wset]
        by_cases q1 : k = 80 ∧ s = 105
        · rw [if_pos q1, if_pos q1, eN]
        · rw [if_neg q1, if_neg q1]
          show (if k = 144 ∧ (s : Int) < p - y then (if 0 ≤ (s : Int) + y then W.1 144 ((s : Int) + y).toNat else 0) else W.1 k s) = _
          by_cases q2 : k = 144 ∧ s < N
          · rw [if_pos q2, if_pos (by omega), hg s q2.2]
            by_cases q3 : 0 ≤ (s : Int) + y
            · rw [if_pos q3, if_pos q3, wld_g h (by omega)]
              have := m3 144 ((s : Int) + y).toNat (by omega)
              exact (w8_i this.1 this.2).symm
            · rw [if_neg q3, if_neg q3]
              rfl
          · rw [if_neg q2, if_neg (by omega)]
            exact h.1 k s q
      · show W.2.1 = _
        rw [gL_2 t2]
        exact h.2.1
      · show W.2.2 = _
        rw [gL_2 t2]
        exact h.2.2
      · rw [t3, if_neg (by omega), if_neg (by omega)]
    by_cases y0 : y ≤ 0
    · obtain ⟨d, hd⟩ : ∃ d : Nat, d = (-y).toNat := ⟨_, rfl⟩
      have ed : y = -(d : Int) := by omega
      have sN1 : -2147483648 ≤ (N : Int) - 1 ∧ (N : Int) - 1 < 2147483648 := by omega
      obtain ⟨τ, t1, t2, t3⟩ := L566d (N := N) (d := d) (by omega) (by omega) N σ (Nat.le_refl _)
      obtain ⟨f1, f2, f3⟩ := fin τ (fun s => if d ≤ s then gI σ 144 (s - d) else 0) t2 t3 (fun s hs => by
        show (if d ≤ s then _ else _) = _
        by_cases q : d ≤ s
        · rw [if_pos q, if_pos (by omega), show ((s : Int) + y).toNat = s - d by omega]
        · rw [if_neg q, if_neg (by omega)])
      refine ⟨τ, ?_, f1, f2, f3⟩
      have w1 : w32 (p - y) = (N : Int) := by rw [w32_i sN.1 sN.2, eN]
      have w2 : w32 ((N : Int) - 1) = (N : Int) - 1 := w32_i sN1.1 sN1.2
      rw [s31, e566_31, if_pos y0, gp, w1, w2]
      rw [← ed] at t1
      exact t1
    · obtain ⟨d, hd⟩ : ∃ d : Nat, d = y.toNat := ⟨_, rfl⟩
      have ed : y = (d : Int) := by omega
      obtain ⟨τ, t1, t2, t3⟩ := L566u (N := N) (d := d) (by omega) (by omega) N 0 σ (by omega)
      obtain ⟨f1, f2, f3⟩ := fin τ (fun s => gI σ 144 (s + d)) t2 (fun k s => by
        rw [t3]
        by_cases q : k = 80 ∧ s = 105
        · rw [if_pos q, if_pos q]
        · rw [if_neg q, if_neg q]
          by_cases q2 : k = 144 ∧ s < N
          · rw [if_pos (by omega), if_pos q2]
          · rw [if_neg (by omega), if_neg q2]) (fun s hs => by
        show gI σ 144 (s + d) = _
        rw [if_pos (by omega), show ((s : Int) + y).toNat = s + d by omega])
      refine ⟨τ, ?_, f1, f2, f3⟩
      have w1 : w32 (p - y) = (N : Int) := by rw [w32_i sN.1 sN.2, eN]
      rw [s31, e566_31, if_neg y0, gp, w1]
      rw [← ed] at t1
      exact t1
theorem hp_44 (h : RelR σ c) (hI : invW (cW c)) (e : hpT RB RH E c 44 nx = some (k, c')) : hpo σ c 44 nx k c' := by
  unfold hpT at e
  rw [if_neg (by decide), if_neg (by decide), if_neg (by decide), if_neg (by decide), if_neg (by decide), if_neg (by decide), if_pos rfl] at e
  by_cases z2 : (rdR c 2).1 = 0
  · rw [if_neg (not_not_intro z2)] at e
    obtain ⟨r2, _⟩ := rd_R h (r := 2) (by decide) (by omega)
    have r2 : gL σ 146 (rpR c 2) = (rdR c 2).2 := r2.trans (enG_z z2)
    have e : bhT c (cS c) (triR (cW c) (rdR c 2).2).1 (0, (triR (cW c) (rdR c 2).2).2) nx = some (k, c') := e
    obtain ⟨τ, t1, t2, t3, t4⟩ := tri_W (x := (rdR c 2).2) (RelR_wld h) hI
    have lt := gL_2 t3
    refine hpo_b (v := (triR (cW c) (rdR c 2).2).2) (τ := τ) ?_ ⟨fun k s z => t4 k s (by omega), fun k s _ _ => lt k s, by rw [t3]⟩ (fun s z => t4 _ _ (by omega)) (RelR_w h (t4 _ _ (by omega)) (fun s => lt _ _) (fun s => t4 _ _ (by omega)) (fun s => t4 _ _ (by omega)) t2) enG_0.symm okSV_0 e
    rw [L563 h, r2, e563_51]
    simp only [Option.getD_some, Option.bind_some, Option.toList_some, Option.toList_none, List.cons_append, List.nil_append, and_self, and_true, true_and, false_and, and_false, ite_self, not_true_eq_false, not_false_eq_true, reduceIte, Nat.reduceEqDiff, ab_I, ab_L, ab_R, ao_I, ao_L, ao_R, gL_sL, gI_sI, gR_sR, gI_sL, gI_sR, gL_sI, gL_sR, gR_sI, gR_sL, Int.reduceEq, if_true, if_false, t1, e563_384]
  · rw [if_pos z2] at e
    cases e
/-! RECORD -/
abbrev hlP (σ : MS) (m : Nat) (i : Nat) : Bool := decide (¬ gI σ 152 i = 0 ∧ gI σ 151 i = (m : Int))
abbrev fr2 (σ : MS) (i : Nat) : Bool := decide (gI σ 152 i = 0)
theorem L567 {A : Int} (hA : 0 ≤ A ∧ A ≤ 16) : ∀ (j d : Nat), j + d = 64 → RR (lkB tb567) (B567_14, [some (mR (some 80)), some (mI (m : Int)), some (mI y), some (mI (A + (((List.range' j d).filter (hlP σ m)).length : Int))), some (mI (ioN ((List.range' j d).find? (fr2 σ)))), some (mI ((j : Int) - 1))], [], σ) = RR (lkB tb567) (B567_14, [some (mR (some 80)), some (mI (m : Int)), some (mI y), some (mI (A + (((List.range 64).filter (hlP σ m)).length : Int))), some (mI (ioN ((List.range 64).find? (fr2 σ)))), some (mI (-1))], [], σ) := by
  intro j
  induction j with
  | zero =>
    intro d z
    have z : d = 64 := by omega
    subst z
    rw [List.range_eq_range']
    rfl
  | succ j ih =>
    intro d z
    have z2 := ih (d + 1) (by omega)
    rw [← z2]
    clear z2
    have len : ((List.range' (j + 1) d).filter (hlP σ m)).length ≤ d := by
      have := List.length_filter_le (hlP σ m) (List.range' (j + 1) d)
      rwa [List.length_range'] at this
    obtain ⟨C, hC⟩ : ∃ C : Nat, C = ((List.range' (j + 1) d).filter (hlP σ m)).length := ⟨_, rfl⟩
    rw [← hC] at len ⊢
    have ej : ((j + 1 : Nat) : Int) - 1 = (j : Int) := by omega
    have nl : ¬ (j : Int) < 0 := by omega
    have b2 : 0 ≤ (j : Int) ∧ (j : Int) < 64 := by omega
    have s2 : -2147483648 ≤ (j : Int) + (-1) ∧ (j : Int) + (-1) < 2147483648 := by omega
    have e1 : (j : Int) + (-1) = (j : Int) - 1 := by omega
    have s3 : -2147483648 ≤ A + (C : Int) + 0 ∧ A + (C : Int) + 0 < 2147483648 := by omega
    have s4 : -2147483648 ≤ A + (C : Int) + 1 ∧ A + (C : Int) + 1 < 2147483648 := by omega
    have e3 : A + (C : Int) + 0 = A + (C : Int) := by omega
    have e4 : A + (C : Int) + 1 = A + ((C + 1 : Nat) : Int) := by omega
    have w2 : w32 ((j : Int) + (-1)) = (j : Int) - 1 := by rw [w32_i s2.1 s2.2, e1]
    have w3 : w32 (A + (C : Int) + 0) = A + (C : Int) := by rw [w32_i s3.1 s3.2, e3]
    have w4 : w32 (A + (C : Int) + 1) = A + ((C + 1 : Nat) : Int) := by rw [w32_i s4.1 s4.2, e4]
    rw [List.range'_succ, List.filter_cons, List.find?_cons, ej]
    by_cases q : gI σ 152 j = 0
    · have f1 : hlP σ m j = false := decide_eq_false (fun z => z.1 q)
      have f2 : fr2 σ j = true := decide_eq_true q
      rw [f1, f2, if_neg (by decide), ← hC]
      rw [e567_14, if_neg nl]
      simp only [Option.getD_some, Option.bind_some, Option.toList_some, Option.toList_none, List.cons_append, List.nil_append, and_self, and_true, true_and, false_and, and_false, ite_self, not_true_eq_false, not_false_eq_true, reduceIte, Nat.reduceEqDiff, ab_I, ab_L, ab_R, ao_I, ao_L, ao_R, gL_sL, gI_sI, gR_sR, gI_sL, gI_sR, gL_sI, gL_sR, gR_sI, gR_sL, g_152, b2.1, b2.2, Int.toNat_natCast, q, if_true, e567_45, e567_46, e567_65, w2, w3]
      rfl
    · have f2 : fr2 σ j = false := decide_eq_false q
      by_cases q2 : gI σ 151 j = (m : Int)
      · have f1 : hlP σ m j = true := decide_eq_true ⟨q, q2⟩
        rw [f1, f2, if_pos rfl, List.length_cons, ← hC]
        rw [e567_14, if_neg nl]
        simp only [Option.getD_some, Option.bind_some, Option.toList_some, Option.toList_none, List.cons_append, List.nil_append, and_self, and_true, true_and, false_and, and_false, ite_self, not_true_eq_false, not_false_eq_true, reduceIte, Nat.reduceEqDiff, ab_I, ab_L, ab_R, ao_I, ao_L, ao_R, gL_sL, gI_sI, gR_sR, gI_sL, gI_sR, gL_sI, gL_sR, gR_sI, gR_sL, g_152, g_151, b2.1, b2.2, Int.toNat_natCast, q, q2, if_false, not_true_eq_false, e567_46, e567_65, w2, w4]
      · have f1 : hlP σ m j = false := decide_eq_false (fun z => q2 z.2)
        rw [f1, f2, if_neg (by decide), ← hC]
        rw [e567_14, if_neg nl]
        simp only [Option.getD_some, Option.bind_some, Option.toList_some, Option.toList_none, List.cons_append, List.nil_append, and_self, and_true, true_and, false_and, and_false, ite_self, not_true_eq_false, not_false_eq_true, reduceIte, Nat.reduceEqDiff, ab_I, ab_L, ab_R, ao_I, ao_L, ao_R, gL_sL, gI_sI, gR_sR, gI_sL, gI_sR, gL_sI, gL_sR, gR_sI, gR_sL, g_152, g_151, b2.1, b2.2, Int.toNat_natCast, q, q2, if_false, if_true, not_false_eq_true, e567_45, e567_46, e567_65, w2, w3]
theorem hld_W (h : wldR σ W) : ((List.range 64).filter (hlP σ m)).length = hldR W m := by
  unfold hldR
  refine congrArg (fun p => (List.filter p (List.range 64)).length) ?_
  funext i
  show decide _ = decide _
  rw [wld_g h (k := 152) (by omega), wld_g h (k := 151) (by omega)]
theorem rec_W (h : wldR σ W) (hI : invW W) (hm : m < 8) : ∃ τ, MM 567 [mR (some 80), mI (m : Int), mI y] σ = some (some (mL (match (recR W (m : Int) y).2 with
    | none => 0#64
    | some i => enR (300 + i, 0#64))), τ) ∧ wldR τ (recR W (m : Int) y).1 ∧ τ.2 = σ.2 ∧ (∀ k s, ¬ (149 ≤ k ∧ k ≤ 152) → gI τ k s = gI σ k s) ∧ ∀ i, (recR W (m : Int) y).2 = some i → i < 64 := by
  have b0 : 0 ≤ (m : Int) ∧ (m : Int) < 8 := by omega
  have g7 := wld_g h (k := 107) (s := m) (by omega)
  have g9 := wld_g h (k := 99) (s := m) (by omega)
  have i7 := hI.2.2.2.2.2.1 m hm
  have i9 := (hI.1 m hm).1
  have t0 := L567 (σ := σ) (m := m) (y := y) (A := wg W 107 m) (by omega) 64 0 rfl
  have t0 : RR (lkB tb567) (B567_14, [some (mR (some 80)), some (mI (m : Int)), some (mI y), some (mI (wg W 107 m + 0)), some (mI (-1)), some (mI 63)], [], σ) = _ := t0
  rw [hld_W h, Int.add_zero] at t0
  have s0 : MM 567 [mR (some 80), mI (m : Int), mI y] σ = RR (lkB tb567) (B567_14, [some (mR (some 80)), some (mI (m : Int)), some (mI y), some (mI (wg W 107 m + (hldR W m : Int))), some (mI (ioN ((List.range 64).find? (fr2 σ)))), some (mI (-1))], [], σ) := by
    rw [M567, e567_0]
    simp only [Option.getD_some, Option.bind_some, Option.toList_some, Option.toList_none, List.cons_append, List.nil_append, and_self, and_true, true_and, false_and, and_false, ite_self, not_true_eq_false, not_false_eq_true, reduceIte, Nat.reduceEqDiff, ab_I, ab_L, ab_R, ao_I, ao_L, ao_R, gL_sL, gI_sI, gR_sR, gI_sL, gI_sR, gL_sI, gL_sR, gR_sI, gR_sL, g_107, b0.1, b0.2, Int.toNat_natCast, g7]
    exact t0
  have ff : (List.range 64).find? (fr2 σ) = (List.range 64).find? fun i => decide (wg W 152 i = 0) := by
    refine congrArg (fun p => List.find? p (List.range 64)) ?_
    funext i
    show decide _ = decide _
    rw [wld_g h (k := 152) (by omega)]
  rw [ff] at s0
  unfold recR
  rw [Int.toNat_natCast]
  by_cases c1 : wg W 99 m ≤ wg W 107 m + (hldR W m : Int)
  · rw [if_pos c1]
    refine ⟨σ, ?_, h, rfl, fun _ _ _ => rfl, fun i z => by cases z⟩
    rw [s0, e567_14, if_pos (by decide)]
    simp only [Option.getD_some, Option.bind_some, Option.toList_some, Option.toList_none, List.cons_append, List.nil_append, and_self, and_true, true_and, false_and, and_false, ite_self, not_true_eq_false, not_false_eq_true, reduceIte, Nat.reduceEqDiff, ab_I, ab_L, ab_R, ao_I, ao_L, ao_R, gL_sL, gI_sI, gR_sR, gI_sL, gI_sR, gL_sI, gL_sR, gR_sI, gR_sL, g_99, b0.1, b0.2, Int.toNat_natCast, g9, c1, if_true]
  · rw [if_neg c1]
    cases q : (List.range 64).find? fun i => decide (wg W 152 i = 0) with
    | none =>
      rw [q] at s0
      refine ⟨σ, ?_, h, rfl, fun _ _ _ => rfl, fun i z => by cases z⟩
      rw [s0, e567_14, if_pos (by decide)]
      have : ¬ 0 ≤ ioN none := by decide
      simp only [Option.getD_some, Option.bind_some, Option.toList_some, Option.toList_none, List.cons_append, List.nil_append, and_self, and_true, true_and, false_and, and_false, ite_self, not_true_eq_false, not_false_eq_true, reduceIte, Nat.reduceEqDiff, ab_I, ab_L, ab_R, ao_I, ao_L, ao_R, gL_sL, gI_sI, gR_sR, gI_sL, gI_sR, gL_sI, gL_sR, gR_sI, gR_sL, g_99, b0.1, b0.2, Int.toNat_natCast, g9, c1, if_false, this]
    | some i =>
      rw [q] at s0
      have li := List.mem_range.mp (List.mem_of_find?_eq_some q)
      have bi : 0 ≤ (i : Int) ∧ (i : Int) < 64 := by omega
      have en : ioN (some i) = (i : Int) := rfl
      rw [en] at s0
      obtain ⟨υ, hυ⟩ : ∃ υ, υ = sI (sI (sI σ 152 i 1) 151 i (m : Int)) 150 i y := ⟨_, rfl⟩
      have wu : wldR υ (wset (wset (wset W 152 i 1) 151 i (m : Int)) 150 i y) := by
        rw [hυ]
        exact wld_I (wld_I (wld_I h))
      have gu : ∀ k s, ¬ (149 ≤ k ∧ k ≤ 152) → gI υ k s = gI σ k s := fun k s z => by
        rw [hυ, gI_sI, if_neg (by omega), gI_sI, if_neg (by omega), gI_sI, if_neg (by omega)]
      have s3 : -2147483648 ≤ 300 + (i : Int) ∧ 300 + (i : Int) < 2147483648 := by omega
      have ea : iL (1048576 * (300 + (i : Int)) + 524288 + 0) = enR (300 + i, 0#64) := by
        show _ = enG adR (300 + i, 0#64)
        rw [enG_n (show ¬ 300 + i = 0 by omega), show (0#64 : B64) = BitVec.ofNat 64 0 from rfl, ad_i]
        exact congrArg iL (by omega)
      have s64 : -2147483648 ≤ 64 * (i : Int) ∧ 64 * (i : Int) < 2147483648 := by omega
      have key : ∀ (f j : Nat), j + f = 64 → RR (lkB tb567) (B567_117, [some (mR (some 80)), some (mI (m : Int)), some (mI y), some (mI (wg W 107 m + (hldR W m : Int))), some (mI (i : Int)), some (mI (j : Int))], [], wzS υ 149 (64 * i) (List.replicate j 0)) = some (some (mL (enR (300 + i, 0#64))), wzS υ 149 (64 * i) (List.replicate 64 0)) := by
        intro f
        induction f with
        | zero =>
          intro j z
          have z : j = 64 := by omega
          subst z
          have w3 : w32 (300 + (i : Int)) = 300 + (i : Int) := w32_i s3.1 s3.2
          rw [e567_117, if_pos (by decide), w3, T549]
          simp only [Option.getD_some, Option.bind_some, Option.toList_some, Option.toList_none, List.cons_append, List.nil_append, and_self, and_true, true_and, false_and, and_false, ite_self, not_true_eq_false, not_false_eq_true, reduceIte, Nat.reduceEqDiff, ab_I, ab_L, ab_R, ao_I, ao_L, ao_R, gL_sL, gI_sI, gR_sR, gI_sL, gI_sR, gL_sI, gL_sR, gR_sI, gR_sL, e567_154, ea]
        | succ f ih =>
          intro j z
          have nl : ¬ (64 : Int) ≤ (j : Int) := by omega
          have j3 : j < 100000 := by omega
          have b3 : 0 ≤ ((64 * i + j : Nat) : Int) ∧ ((64 * i + j : Nat) : Int) < 4096 := by omega
          have s5 : -2147483648 ≤ 64 * (i : Int) + (j : Int) ∧ 64 * (i : Int) + (j : Int) < 2147483648 := by omega
          have e5 : 64 * (i : Int) + (j : Int) = ((64 * i + j : Nat) : Int) := by omega
          have z2 := ih (j + 1) (by omega)
          rw [List.replicate_succ', wzS_s, List.length_replicate] at z2
          have wp : w32 (w32 (64 * (i : Int)) + (j : Int)) = ((64 * i + j : Nat) : Int) := by rw [w32_i s64.1 s64.2, w32_i s5.1 s5.2, e5]
          have ww : w32 ((j : Int) + 1) = ((j + 1 : Nat) : Int) := w32_s j3
          rw [e567_117, if_neg nl]
          simp only [Option.getD_some, Option.bind_some, Option.toList_some, Option.toList_none, List.cons_append, List.nil_append, and_self, and_true, true_and, false_and, and_false, ite_self, not_true_eq_false, not_false_eq_true, reduceIte, Nat.reduceEqDiff, ab_I, ab_L, ab_R, ao_I, ao_L, ao_R, gL_sL, gI_sI, gR_sR, gI_sL, gI_sR, gL_sI, gL_sR, gR_sI, gR_sL, g_149, b3.1, b3.2, wp, Int.toNat_natCast, ww]
          exact z2
      have lz := gL_2 (wzS_2 (k := 149) (List.replicate 64 0) (64 * i) υ)
      refine ⟨wzS υ 149 (64 * i) (List.replicate 64 0), ?_, wld_z wu, ?_, fun k s z => ?_, fun i' z => by cases z; exact li⟩
      · have k0 := key 64 0 (by omega)
        have k0 : RR (lkB tb567) (B567_117, [some (mR (some 80)), some (mI (m : Int)), some (mI y), some (mI (wg W 107 m + (hldR W m : Int))), some (mI (i : Int)), some (mI 0)], [], υ) = _ := k0
        rw [s0, e567_14, if_pos (by decide)]
        simp only [Option.getD_some, Option.bind_some, Option.toList_some, Option.toList_none, List.cons_append, List.nil_append, and_self, and_true, true_and, false_and, and_false, ite_self, not_true_eq_false, not_false_eq_true, reduceIte, Nat.reduceEqDiff, ab_I, ab_L, ab_R, ao_I, ao_L, ao_R, gL_sL, gI_sI, gR_sR, gI_sL, gI_sR, gL_sI, gL_sR, gR_sI, gR_sL, g_99, g_150, g_151, g_152, b0.1, b0.2, bi.1, bi.2, Int.toNat_natCast, g9, c1, if_false, if_true, e567_114]
        have h1 : (1 % 2 : Int) = 1 := rfl
        rw [h1, ← hυ]
        exact k0
      · rw [wzS_2, hυ]
        rfl
      · rw [wzS_g, if_neg (by omega)]
        exact gu k s z
theorem hp_131 (h : RelR σ c) (hI : invW (cW c)) (e : hpT RB RH E c 131 nx = some (k, c')) : hpo σ c 131 nx k c' := by
  unfold hpT at e
  rw [if_neg (by decide), if_neg (by decide), if_neg (by decide), if_neg (by decide), if_neg (by decide), if_neg (by decide), if_neg (by decide), if_pos rfl] at e
  by_cases q : ¬ isMap (rdR c 1) ∨ ¬ ((rdR c 2).1 = 0 ∧ 1 ≤ (rdR c 2).2.toInt ∧ (rdR c 2).2.toInt ≤ 64)
  · rw [if_pos q] at e
    cases e
  · rw [if_neg q] at e
    have mp : isMap (rdR c 1) := Decidable.byContradiction fun z => q (Or.inl z)
    have z2 : (rdR c 2).1 = 0 ∧ 1 ≤ (rdR c 2).2.toInt ∧ (rdR c 2).2.toInt ≤ 64 := Decidable.byContradiction fun z => q (Or.inr z)
    obtain ⟨m, hm, em, e0⟩ := mp_R h (r := 1) (by decide) mp
    obtain ⟨r2, _⟩ := rd_R h (r := 2) (by decide) (by omega)
    have r2 : gL σ 146 (rpR c 2) = (rdR c 2).2 := r2.trans (enG_z z2.1)
    obtain ⟨y, hy⟩ : ∃ y, y = (rdR c 2).2.toInt := ⟨_, rfl⟩
    have l2 : lI (rdR c 2).2 = y := by
      have : (rdR c 2).2 = iL y := by
        rw [hy]
        exact BitVec.ofInt_toInt.symm
      rw [this]
      exact lI_s (by omega)
    rw [em, ← hy] at e
    have e : bhT c (cS c) (recR (cW c) (m : Int) y).1 (match (recR (cW c) (m : Int) y).2 with
      | none => (0, 0#64)
      | some i => (300 + i, 0#64)) nx = some (k, c') := e
    obtain ⟨τ, t1, t2, t3, t4, t5⟩ := rec_W (y := y) (RelR_wld h) hI hm
    have lt := gL_2 t3
    have ms : MM 563 [mR (some 80), mI 131] σ = some (some (mL (match (recR (cW c) (m : Int) y).2 with
      | none => 0#64
      | some i => enR (300 + i, 0#64))), τ) := by
      rw [L563 h, e0, r2, e563_51]
      simp only [Option.getD_some, Option.bind_some, Option.toList_some, Option.toList_none, List.cons_append, List.nil_append, and_self, and_true, true_and, false_and, and_false, ite_self, not_true_eq_false, not_false_eq_true, reduceIte, Nat.reduceEqDiff, ab_I, ab_L, ab_R, ao_I, ao_L, ao_R, gL_sL, gI_sI, gR_sR, gI_sL, gI_sR, gL_sI, gL_sR, gR_sI, gR_sL, Int.reduceEq, if_true, if_false, l2, t1, e563_394]
    have rel := RelR_w h (t4 80 117 (by omega)) (fun s => lt 146 s) (fun s => t4 147 s (by omega)) (fun s => t4 148 s (by omega)) t2
    have mv : mvR σ τ := ⟨fun k s z => t4 k s (by omega), fun k s _ _ => lt k s, by rw [t3]⟩
    cases qr : (recR (cW c) (m : Int) y).2 with
    | none =>
      rw [qr] at e ms
      exact hpo_b ms mv (fun s z => t4 _ _ (by omega)) rel enG_0.symm okSV_0 e
    | some i =>
      have li := t5 i qr
      rw [qr] at e ms
      exact hpo_b ms mv (fun s z => t4 _ _ (by omega)) rel rfl (okSV_p (by omega)) e
/-! FINISH, DROP -/
theorem giv_W {i : Nat} {fl : Bool} (h : wldR σ W) (hI : invW W) (hi : i < 64) (hh : ¬ wg W 152 i = 0) : ∃ τ, MM 568 [mR (some 80), mI (i : Int), mI (bI fl)] σ = some (none, τ) ∧ wldR τ (givR W i fl) ∧ τ.2 = σ.2 ∧ ∀ k s, ¬ (k = 152 ∨ (107 ≤ k ∧ k ≤ 109)) → gI τ k s = gI σ k s := by
  have bi : 0 ≤ (i : Int) ∧ (i : Int) < 64 := by omega
  have w0 : wldR (sI σ 152 i 0) (wset W 152 i 0) := wld_I h
  have i5 := hI.2.2.2.2.1 i hi hh
  unfold givR
  dsimp only
  cases fl with
  | false =>
    rw [if_pos rfl]
    refine ⟨sI σ 152 i 0, ?_, w0, rfl, fun k s z => by rw [gI_sI, if_neg (by omega)]⟩
    rw [show bI false = 0 from rfl, M568, e568_0]
    simp only [Option.getD_some, Option.bind_some, Option.toList_some, Option.toList_none, List.cons_append, List.nil_append, and_self, and_true, true_and, false_and, and_false, ite_self, not_true_eq_false, not_false_eq_true, reduceIte, Nat.reduceEqDiff, ab_I, ab_L, ab_R, ao_I, ao_L, ao_R, gL_sL, gI_sI, gR_sR, gI_sL, gI_sR, gL_sI, gL_sR, gR_sI, gR_sL, g_152, bi.1, bi.2, Int.toNat_natCast, if_false]
    rfl
  | true =>
    rw [if_neg (by decide), show bI true = 1 from rfl]
    obtain ⟨m, hm⟩ : ∃ m : Nat, m = (wg W 151 i).toNat := ⟨_, rfl⟩
    have em : wg W 151 i = (m : Int) := by omega
    have m8 : m < 8 := by omega
    rw [← hm]
    have i7 := hI.2.2.2.2.2.1 m m8
    have i9 := (hI.1 m m8).1
    have hl : 1 ≤ hldR W m := by
      unfold hldR
      refine List.length_pos_of_mem (a := i) (List.mem_filter.mpr ⟨List.mem_range.mpr hi, decide_eq_true ⟨hh, em⟩⟩)
    obtain ⟨K, hK⟩ : ∃ K : Nat, K = (wg W 107 m).toNat := ⟨_, rfl⟩
    have eK : wg W 107 m = (K : Int) := by omega
    obtain ⟨N, hN⟩ : ∃ N : Nat, N = (wg W 150 i).toNat := ⟨_, rfl⟩
    have eN : wg W 150 i = (N : Int) := by omega
    rw [← hK, ← hN, eK, eN]
    have b0 : 0 ≤ (m : Int) ∧ (m : Int) < 8 := by omega
    have bK : 0 ≤ ((16 * m + K : Nat) : Int) ∧ ((16 * m + K : Nat) : Int) < 128 := by omega
    have K16 : K < 16 := by omega
    have g1 : gI (sI σ 152 i 0) 151 i = (m : Int) := by rw [gI_sI, if_neg (by omega), wld_g h (by omega), em]
    have g7 : gI (sI σ 152 i 0) 107 m = (K : Int) := by rw [gI_sI, if_neg (by omega), wld_g h (by omega), eK]
    have g0 : gI (sI σ 152 i 0) 150 i = (N : Int) := by rw [gI_sI, if_neg (by omega), wld_g h (by omega), eN]
    obtain ⟨υ, hυ⟩ : ∃ υ, υ = sI (sI σ 152 i 0) 108 (16 * m + K) (N : Int) := ⟨_, rfl⟩
    have wu : wldR υ (wset (wset W 152 i 0) 108 (16 * m + K) (N : Int)) := by
      rw [hυ]
      exact wld_I w0
    have u7 : gI υ 107 m = (K : Int) := by rw [hυ, gI_sI, if_neg (by omega)]; exact g7
    have u0 : gI υ 150 i = (N : Int) := by rw [hυ, gI_sI, if_neg (by omega)]; exact g0
    have u9 : ∀ s, gI υ 149 s = wg W 149 s := fun s => by
      rw [hυ, gI_sI, if_neg (by omega), gI_sI, if_neg (by omega), wld_g h (by omega)]
    have s64 : -2147483648 ≤ 64 * (i : Int) ∧ 64 * (i : Int) < 2147483648 := by omega
    have sA : -2147483648 ≤ 1024 * (m : Int) ∧ 1024 * (m : Int) < 2147483648 := by omega
    have sB : -2147483648 ≤ 64 * (K : Int) ∧ 64 * (K : Int) < 2147483648 := by omega
    have sC : -2147483648 ≤ 1024 * (m : Int) + 64 * (K : Int) ∧ 1024 * (m : Int) + 64 * (K : Int) < 2147483648 := by omega
    have sK : -2147483648 ≤ (K : Int) + 1 ∧ (K : Int) + 1 < 2147483648 := by omega
    have m3 := hI.2.2.1
    have key : ∀ (f j : Nat), j + f = N → RR (lkB tb568) (B568_48, [some (mR (some 80)), some (mI (i : Int)), some (mI 1), some (mI (m : Int)), some (mI (K : Int)), some (mI (j : Int))], [], wzS υ 109 (1024 * m + 64 * K) ((List.range j).map fun j => wg W 149 (64 * i + j))) = some (none, sI (wzS υ 109 (1024 * m + 64 * K) ((List.range N).map fun j => wg W 149 (64 * i + j))) 107 m ((K : Int) + 1)) := by
      intro f
      induction f with
      | zero =>
        intro j z
        have z : j = N := by omega
        subst z
        have q0 : gI (wzS υ 109 (1024 * m + 64 * K) ((List.range j).map fun j => wg W 149 (64 * i + j))) 150 i = (j : Int) := by
          rw [wzS_g, if_neg (by omega)]
          exact u0
        have q7 : gI (wzS υ 109 (1024 * m + 64 * K) ((List.range j).map fun j => wg W 149 (64 * i + j))) 107 m = (K : Int) := by
          rw [wzS_g, if_neg (by omega)]
          exact u7
        have wK : w32 ((K : Int) + 1) = (K : Int) + 1 := w32_i sK.1 sK.2
        rw [e568_48]
        simp only [Option.getD_some, Option.bind_some, Option.toList_some, Option.toList_none, List.cons_append, List.nil_append, and_self, and_true, true_and, false_and, and_false, ite_self, not_true_eq_false, not_false_eq_true, reduceIte, Nat.reduceEqDiff, ab_I, ab_L, ab_R, ao_I, ao_L, ao_R, gL_sL, gI_sI, gR_sR, gI_sL, gI_sR, gL_sI, gL_sR, gR_sI, gR_sL, g_150, g_107, bi.1, bi.2, b0.1, b0.2, Int.toNat_natCast, q0, q7, Int.le_refl, if_true, wK]
      | succ f ih =>
        intro j z
        have nl : ¬ (N : Int) ≤ (j : Int) := by omega
        have j3 : j < 100000 := by omega
        have b3 : 0 ≤ ((64 * i + j : Nat) : Int) ∧ ((64 * i + j : Nat) : Int) < 4096 := by omega
        have b4 : 0 ≤ ((1024 * m + 64 * K + j : Nat) : Int) ∧ ((1024 * m + 64 * K + j : Nat) : Int) < 8192 := by omega
        have s5 : -2147483648 ≤ 64 * (i : Int) + (j : Int) ∧ 64 * (i : Int) + (j : Int) < 2147483648 := by omega
        have e5 : 64 * (i : Int) + (j : Int) = ((64 * i + j : Nat) : Int) := by omega
        have s6 : -2147483648 ≤ 1024 * (m : Int) + 64 * (K : Int) + (j : Int) ∧ 1024 * (m : Int) + 64 * (K : Int) + (j : Int) < 2147483648 := by omega
        have e6 : 1024 * (m : Int) + 64 * (K : Int) + (j : Int) = ((1024 * m + 64 * K + j : Nat) : Int) := by omega
        have q0 : gI (wzS υ 109 (1024 * m + 64 * K) ((List.range j).map fun j => wg W 149 (64 * i + j))) 150 i = (N : Int) := by
          rw [wzS_g, if_neg (by omega)]
          exact u0
        have q9 : gI (wzS υ 109 (1024 * m + 64 * K) ((List.range j).map fun j => wg W 149 (64 * i + j))) 149 (64 * i + j) = wg W 149 (64 * i + j) := by
          rw [wzS_g, if_neg (by omega)]
          exact u9 _
        have z2 := ih (j + 1) (by omega)
        rw [List.range_succ, List.map_append, List.map_singleton, wzS_s, List.length_map, List.length_range] at z2
        have m8' := m3 149 (64 * i + j) (by omega)
        have w8' := w8_i m8'.1 m8'.2
        have wp : w32 (w32 (64 * (i : Int)) + (j : Int)) = ((64 * i + j : Nat) : Int) := by rw [w32_i s64.1 s64.2, w32_i s5.1 s5.2, e5]
        have wq : w32 (w32 (w32 (1024 * (m : Int)) + w32 (64 * (K : Int))) + (j : Int)) = ((1024 * m + 64 * K + j : Nat) : Int) := by rw [w32_i sA.1 sA.2, w32_i sB.1 sB.2, w32_i sC.1 sC.2, w32_i s6.1 s6.2, e6]
        have ww : w32 ((j : Int) + 1) = ((j + 1 : Nat) : Int) := w32_s j3
        rw [e568_48]
        simp only [Option.getD_some, Option.bind_some, Option.toList_some, Option.toList_none, List.cons_append, List.nil_append, and_self, and_true, true_and, false_and, and_false, ite_self, not_true_eq_false, not_false_eq_true, reduceIte, Nat.reduceEqDiff, ab_I, ab_L, ab_R, ao_I, ao_L, ao_R, gL_sL, gI_sI, gR_sR, gI_sL, gI_sR, gL_sI, gL_sR, gR_sI, gR_sL, g_150, g_149, g_109, bi.1, bi.2, b3.1, b3.2, b4.1, b4.2, wp, wq, Int.toNat_natCast, q0, q9, w8', nl, if_false, ww]
        exact z2
    have k0 := key N 0 (by omega)
    have k0 : RR (lkB tb568) (B568_48, [some (mR (some 80)), some (mI (i : Int)), some (mI 1), some (mI (m : Int)), some (mI (K : Int)), some (mI 0)], [], υ) = _ := k0
    refine ⟨_, ?_, wld_I (wld_z wu), ?_, fun k s z => ?_⟩
    · have wp := wa_16 (e := K) m8 (Nat.lt_trans K16 (by decide))
      rw [M568, e568_0]
      have h0 : (0 % 2 : Int) = 0 := rfl
      rw [h0]
      simp only [Option.getD_some, Option.bind_some, Option.toList_some, Option.toList_none, List.cons_append, List.nil_append, and_self, and_true, true_and, false_and, and_false, ite_self, not_true_eq_false, not_false_eq_true, reduceIte, Nat.reduceEqDiff, ab_I, ab_L, ab_R, ao_I, ao_L, ao_R, gL_sL, gI_sI, gR_sR, gI_sL, gI_sR, gL_sI, gL_sR, gR_sI, gR_sL, g_152, g_151, g_107, g_150, g_108, bi.1, bi.2, b0.1, b0.2, bK.1, bK.2, Int.toNat_natCast, show ¬ (1 : Int) = 0 by decide, not_false_eq_true, if_true, g1, g7, g0, wp]
      rw [← hυ]
      exact k0
    · show (wzS _ _ _ _).2 = _
      rw [wzS_2, hυ]
      rfl
    · rw [gI_sI, if_neg (by omega), wzS_g, if_neg (by omega), hυ, gI_sI, if_neg (by omega), gI_sI, if_neg (by omega)]
theorem hp_13 (h : RelR σ c) (hI : invW (cW c)) (hk : hh = 132 ∨ hh = 133) (e : hpT RB RH E c hh nx = some (k, c')) : hpo σ c hh nx k c' := by
  unfold hpT at e
  rw [if_neg (by omega), if_neg (by omega), if_neg (by omega), if_neg (by omega), if_neg (by omega), if_neg (by omega), if_neg (by omega), if_neg (by omega), if_pos hk] at e
  by_cases q : ¬ ((300 ≤ (rdR c 1).1 ∧ (rdR c 1).1 ≤ 363) ∧ (rdR c 1).2 = 0#64) ∨ ¬ RB.2.2.2.1 (cW c) ((rdR c 1).1 - 300) = true
  · rw [if_pos q] at e
    cases e
  · rw [if_neg q] at e
    have z1 : (300 ≤ (rdR c 1).1 ∧ (rdR c 1).1 ≤ 363) ∧ (rdR c 1).2 = 0#64 := Decidable.byContradiction fun z => q (Or.inl z)
    have zh : RB.2.2.2.1 (cW c) ((rdR c 1).1 - 300) = true := Decidable.byContradiction fun z => q (Or.inr z)
    have zh : ¬ wg (cW c) 152 ((rdR c 1).1 - 300) = 0 := of_decide_eq_true zh
    obtain ⟨r1, _⟩ := rd_R h (r := 1) (by decide) (by omega)
    obtain ⟨i, hi⟩ : ∃ i, i = (rdR c 1).1 - 300 := ⟨_, rfl⟩
    rw [← hi] at zh e
    have r1 : gL σ 146 (rpR c 1) = adR (rdR c 1).1 + BitVec.ofNat 64 0 := by
      rw [r1]
      show enG adR (rdR c 1) = _
      rw [enG_p (by omega), z1.2]
    have l1 : lI (lShr (gL σ 146 (rpR c 1)) 20) = ((300 + i : Nat) : Int) := by
      rw [r1, ad_o (by omega) (by decide)]
      omega
    have s1 : -2147483648 ≤ ((300 + i : Nat) : Int) - 300 ∧ ((300 + i : Nat) : Int) - 300 < 2147483648 := by omega
    have e1 : ((300 + i : Nat) : Int) - 300 = (i : Int) := by omega
    have i64 : i < 64 := by omega
    have w1 : w32 (lI (lShr (gL σ 146 (rpR c 1)) 20) - 300) = (i : Int) := by rw [l1, w32_i s1.1 s1.2, e1]
    have e : bhT (kilT c (rdR c 1).1) (cS (kilT c (rdR c 1).1)) (givR (cW c) i (decide (hh = 132))) (0, 0#64) nx = some (k, c') := e
    obtain ⟨τ, t1, t2, t3, t4⟩ := giv_W (fl := decide (hh = 132)) (RelR_wld h) hI i64 zh
    have lt := gL_2 t3
    refine hpo_d (d := kilT c (rdR c 1).1) rfl rfl (v := 0#64) (τ := τ) ?_ ⟨fun k s z => t4 k s (by omega), fun k s _ _ => lt k s, by rw [t3]⟩ (fun s z => t4 _ _ (by omega)) (RelR_k (RelR_w h (t4 _ _ (by omega)) (fun s => lt _ _) (fun s => t4 _ _ (by omega)) (fun s => t4 _ _ (by omega)) t2) (rdR c 1).1) enG_0.symm okSV_0 e
    rw [L563 h, e563_51]
    rcases hk with rfl | rfl
    · have t1 : MM 568 [mR (some 80), mI (i : Int), mI 1] σ = some (none, τ) := t1
      simp only [Option.getD_some, Option.bind_some, Option.toList_some, Option.toList_none, List.cons_append, List.nil_append, and_self, and_true, true_and, false_and, and_false, ite_self, not_true_eq_false, not_false_eq_true, reduceIte, Nat.reduceEqDiff, ab_I, ab_L, ab_R, ao_I, ao_L, ao_R, gL_sL, gI_sI, gR_sR, gI_sL, gI_sR, gL_sI, gL_sR, gR_sI, gR_sL, Int.reduceEq, if_true, if_false, not_true_eq_false, w1, e563_417, t1, e563_420]
    · have t1 : MM 568 [mR (some 80), mI (i : Int), mI 0] σ = some (none, τ) := t1
      simp only [Option.getD_some, Option.bind_some, Option.toList_some, Option.toList_none, List.cons_append, List.nil_append, and_self, and_true, true_and, false_and, and_false, ite_self, not_true_eq_false, not_false_eq_true, reduceIte, Nat.reduceEqDiff, ab_I, ab_L, ab_R, ao_I, ao_L, ao_R, gL_sL, gI_sI, gR_sR, gI_sL, gI_sR, gL_sI, gL_sR, gR_sI, gR_sL, Int.reduceEq, if_true, if_false, not_false_eq_true, w1, e563_417, t1, e563_420]
end RHL2
