/-! ===== the reference's numbers, signs, tokens ===== -/
section RNU
theorem ao80r {σ : MS} : ao σ 11 (some 80) := ⟨rfl, rfl⟩
variable {t : Nat → Int} {n i j k : Nat} {σ τ ρ υ : MS} {c d e o : Int} {v : B64} {q : B64 × Int}

theorem or4 {d : Int} (h : 0 ≤ d ∧ d < 16) : lShl v 4 ||| iL d = v * iL 16 + iL d := by
  obtain ⟨m, hm⟩ : ∃ m : Nat, d = (m : Int) := ⟨d.toNat, by omega⟩
  have hm16 : m < 16 := by omega
  have e1 : (iL d).toNat = m := by
    rw [hm]
    show ((m : Int) % 18446744073709551616).toNat = m
    omega
  have e2 : (lShl v 4).toNat = 16 * (v.toNat % 1152921504606846976) := by
    show (v <<< 4).toNat = _
    rw [BitVec.toNat_shiftLeft, Nat.shiftLeft_eq]
    have := v.isLt
    omega
  have e3 : (iL 16).toNat = 16 := by decide
  refine BitVec.eq_of_toNat_eq ?_
  rw [BitVec.toNat_or, BitVec.toNat_add, BitVec.toNat_mul, e1, e2, e3]
  have := Nat.two_pow_add_eq_or_of_lt (i := 4) (b := m) hm16 (v.toNat % 1152921504606846976)
  rw [show (2 : Nat) ^ 4 = 16 from rfl] at this
  rw [← this]
  have := v.isLt
  omega
theorem ush60 : (lUsh v 60 = BitVec.ofNat 64 0) = ¬ iL 1152921504606846975 < v := by
  have e1 : (iL 1152921504606846975).toNat = 1152921504606846975 := by decide
  have e2 : (lUsh v 60).toNat = v.toNat / 1152921504606846976 := by
    show (v >>> 60).toNat = _
    rw [BitVec.toNat_ushiftRight, Nat.shiftRight_eq_div_pow]
  rw [BitVec.lt_def, e1]
  refine propext ⟨fun h => ?_, fun h => ?_⟩
  · have : (lUsh v 60).toNat = 0 := by rw [h]; rfl
    omega
  · refine BitVec.eq_of_toNat_eq ?_
    rw [e2]
    show v.toNat / 1152921504606846976 = 0
    omega
theorem dgS_01 {x : Bool} : (dgS x d q).2 = 0 ∨ (dgS x d q).2 = 1 := by
  show (if q.2 = 1 then (1 : Int) else if x = true then (if iL 1152921504606846975 < q.1 then (1 : Int) else 0) else (if iL 1844674407370955161 < q.1 ∨ (q.1 = iL 1844674407370955161 ∧ 5 < d) then (1 : Int) else 0)) = 0 ∨ (if q.2 = 1 then (1 : Int) else if x = true then (if iL 1152921504606846975 < q.1 then (1 : Int) else 0) else (if iL 1844674407370955161 < q.1 ∨ (q.1 = iL 1844674407370955161 ∧ 5 < d) then (1 : Int) else 0)) = 1
  repeat' split
  all_goals first | exact Or.inl rfl | exact Or.inr rfl
theorem hexV_b : hexV c < 16 := by
  unfold hexV
  repeat' split
  all_goals omega
/-- what a number's loop leaves -/
def nuP (ρ : MS) (r : Nat × (B64 × Int)) (τ : MS) : Prop := rqL τ ρ ∧ gI τ 80 9 = gI ρ 80 9 ∧ gI τ 80 10 = gI ρ 80 10 ∧ gI τ 80 8 = (r.1 : Int) ∧ gL τ 80 12 = r.2.1 ∧ gI τ 80 13 = r.2.2
theorem nuP_t {r : Nat × (B64 × Int)} (a : rqL ρ υ) (b : gI ρ 80 9 = gI υ 80 9) (c : gI ρ 80 10 = gI υ 80 10) (h : nuP ρ r τ) : nuP υ r τ := ⟨rqL_t h.1 a, h.2.1.trans b, h.2.2.1.trans c, h.2.2.2⟩
theorem L356h : ∀ (f i : Nat) (q : B64 × Int) (ρ : MS), n - i ≤ f → i ≤ n → rTx ρ t n → gI ρ 80 8 = (i : Int) → gL ρ 80 12 = q.1 → gI ρ 80 13 = q.2 → (q.2 = 0 ∨ q.2 = 1) → okc (RR (lkB tb356) (B356_56, [some (mR (some 80)), none], [], ρ)) none (nuP ρ (nuL t n true (n - i) i q)) := by
  intro f
  induction f with
  | zero =>
    intro i q ρ hf hi h h8 h12 h13 hq
    have z : n - i = 0 := by omega
    have g := pk_0 (t := t) (n := n) (i := i) (by omega)
    rw [z, e356_56, P0 h h8 hi, g]
    simp only [Option.bind_some, Option.toList_some, List.cons_append, List.nil_append]
    rw [e356_61, T354 (by decide)]
    simp only [Option.bind_some, Option.toList_some, List.cons_append, List.nil_append]
    rw [e356_64, if_pos (by decide)]
    exact okc_s ⟨rqL_r _, rfl, rfl, h8, h12, h13⟩
  | succ f ih =>
    intro i q ρ hf hi h h8 h12 h13 hq
    have n4 := h.2.1
    have pb := pk_b (t := t) (n := n) (i := i)
    rw [e356_56, P0 h h8 hi]
    simp only [Option.bind_some, Option.toList_some, List.cons_append, List.nil_append]
    rw [e356_61, T354 (by omega)]
    simp only [Option.bind_some, Option.toList_some, List.cons_append, List.nil_append]
    rw [e356_64]
    by_cases b : hexV (pk t n i) < 0
    · rw [if_pos b]
      have : nuL t n true (n - i) i q = (i, q) := by
        cases n - i with
        | zero => rfl
        | succ m => exact if_neg (fun z : 0 ≤ hexV (pk t n i) => by omega)
      rw [this]
      exact okc_s ⟨rqL_r _, rfl, rfl, h8, h12, h13⟩
    · have hin : i < n := by
        refine Classical.byContradiction fun z => b ?_
        rw [pk_0 (by omega), hexV_m]
        decide
      have un : nuL t n true (n - i) i q = nuL t n true (n - (i + 1)) (i + 1) (dgS true (hexV (pk t n i)) q) := by
        rw [show n - i = (n - (i + 1)) + 1 by omega]
        exact if_pos (show 0 ≤ hexV (pk t n i) by omega)
      have hb := hexV_b (c := pk t n i)
      have key : ∀ y : Int, y = (if iL 1152921504606846975 < q.1 then 1 else 0) → okc (RR (lkB tb356) (B356_89, [some (mR (some 80)), none], [mI y, mI (gI ρ 80 13), mR (some 80)], ρ)) none (nuP ρ (nuL t n true (n - i) i q)) := fun y hy => by
        have oo : iOr (gI ρ 80 13) y = (dgS true (hexV (pk t n i)) q).2 := by
          show _ = if q.2 = 1 then (1 : Int) else if true = true then (if iL 1152921504606846975 < q.1 then (1 : Int) else 0) else (if iL 1844674407370955161 < q.1 ∨ (q.1 = iL 1844674407370955161 ∧ 5 < hexV (pk t n i)) then (1 : Int) else 0)
          rw [h13, hy, if_pos (rfl : true = true)]
          rcases hq with z | z
          · rw [z, if_neg (by decide : ¬ (0 : Int) = 1)]
            split <;> decide
          · rw [z, if_pos (rfl : (1 : Int) = 1)]
            split <;> decide
        have o01 : (dgS true (hexV (pk t n i)) q).2 = 0 ∨ (dgS true (hexV (pk t n i)) q).2 = 1 := dgS_01
        rw [e356_89, oo, if_pos ⟨ao80r, o01⟩]
        generalize hqq : dgS true (hexV (pk t n i)) q = Q at *
        have r1 : rTx (sI ρ 80 13 Q.2) t n := rTx_q h (rqL_I ⟨by omega, by omega⟩)
        have g8 : gI (sI ρ 80 13 Q.2) 80 8 = (i : Int) := by rw [gI_sI, if_neg (by decide)]; exact h8
        rw [P0 r1 g8 hi]
        simp only [Option.bind_some, Option.toList_some, List.cons_append, List.nil_append]
        rw [e356_105, T354 (by omega)]
        simp only [Option.bind_some, Option.toList_some, List.cons_append, List.nil_append]
        have v1 : lShl (gL (sI ρ 80 13 Q.2) 80 12) 4 ||| iL (hexV (pk t n i)) = Q.1 := by
          rw [gL_sI, h12, or4 ⟨by omega, hb⟩, ← hqq]
          rfl
        rw [e356_108, v1]
        have g8' : gI (sL (sI ρ 80 13 Q.2) 80 12 Q.1) 80 8 = (i : Int) := g8
        rw [g8', w32_s1 (by omega), un]
        have fr : rqL (sI (sL (sI ρ 80 13 Q.2) 80 12 Q.1) 80 8 ((i + 1 : Nat) : Int)) ρ := rqL_t (rqL_I ⟨by omega, by omega⟩) (rqL_t rqL_L (rqL_I ⟨by omega, by omega⟩))
        have x := ih (i + 1) Q (sI (sL (sI ρ 80 13 Q.2) 80 12 Q.1) 80 8 ((i + 1 : Nat) : Int)) (by omega) (by omega) (rTx_q h fr) at8 (by rw [gL_sI, gL_sL, if_pos ⟨rfl, rfl⟩]) (by rw [gI_sI, if_neg (by decide), gI_sL, gI_sI, if_pos ⟨rfl, rfl⟩]) o01
        refine okc_m x fun τ p => nuP_t fr ?_ ?_ p
        · rw [gI_sI, if_neg (by decide), gI_sL, gI_sI, if_neg (by decide)]
        · rw [gI_sI, if_neg (by decide), gI_sL, gI_sI, if_neg (by decide)]
      rw [if_neg b, h12]
      simp only [ush60]
      by_cases c1 : iL 1152921504606846975 < q.1
      · rw [if_neg (fun z => z c1)]
        exact key 1 (if_pos c1).symm
      · rw [if_pos c1]
        exact key 0 (if_neg c1).symm
theorem L356d : ∀ (f i : Nat) (q : B64 × Int) (ρ : MS), n - i ≤ f → i ≤ n → rTx ρ t n → gI ρ 80 8 = (i : Int) → gL ρ 80 12 = q.1 → gI ρ 80 13 = q.2 → (q.2 = 0 ∨ q.2 = 1) → okc (RR (lkB tb356) (B356_127, [some (mR (some 80)), none], [], ρ)) none (nuP ρ (nuL t n false (n - i) i q)) := by
  intro f
  induction f with
  | zero =>
    intro i q ρ hf hi h h8 h12 h13 hq
    have z : n - i = 0 := by omega
    have g := pk_0 (t := t) (n := n) (i := i) (by omega)
    rw [z, e356_127, P0 h h8 hi, g]
    simp only [Option.bind_some, Option.toList_some, List.cons_append, List.nil_append]
    rw [e356_132, T352]
    simp only [Option.bind_some, Option.toList_some, List.cons_append, List.nil_append]
    rw [e356_135, if_pos (by decide)]
    exact okc_s ⟨rqL_r _, rfl, rfl, h8, h12, h13⟩
  | succ f ih =>
    intro i q ρ hf hi h h8 h12 h13 hq
    have n4 := h.2.1
    have pb := pk_b (t := t) (n := n) (i := i)
    rw [e356_127, P0 h h8 hi]
    simp only [Option.bind_some, Option.toList_some, List.cons_append, List.nil_append]
    rw [e356_132, T352]
    simp only [Option.bind_some, Option.toList_some, List.cons_append, List.nil_append]
    rw [e356_135]
    by_cases b : isDg (pk t n i)
    · have hin : i < n := pk_p (t := t) (by omega)
      have un : nuL t n false (n - i) i q = nuL t n false (n - (i + 1)) (i + 1) (dgS false (hexV (pk t n i)) q) := by
        rw [show n - i = (n - (i + 1)) + 1 by omega]
        exact if_pos (show dgP false (pk t n i) from b)
      have dh := dg_hex b
      have w1 : w32 (pk t n i - 48) = hexV (pk t n i) := by rw [dh]; exact w32_i (by omega) (by omega)
      have key : ∀ y : Int, y = (if iL 1844674407370955161 < q.1 ∨ (q.1 = iL 1844674407370955161 ∧ 5 < hexV (pk t n i)) then 1 else 0) → okc (RR (lkB tb356) (B356_186, [some (mR (some 80)), some (mI (hexV (pk t n i)))], [mI y, mI (gI ρ 80 13), mR (some 80)], ρ)) none (nuP ρ (nuL t n false (n - i) i q)) := fun y hy => by
        have oo : iOr (gI ρ 80 13) y = (dgS false (hexV (pk t n i)) q).2 := by
          show _ = if q.2 = 1 then (1 : Int) else if false = true then (if iL 1152921504606846975 < q.1 then (1 : Int) else 0) else (if iL 1844674407370955161 < q.1 ∨ (q.1 = iL 1844674407370955161 ∧ 5 < hexV (pk t n i)) then (1 : Int) else 0)
          rw [h13, hy, if_neg (by decide : ¬ false = true)]
          rcases hq with z | z
          · rw [z, if_neg (by decide : ¬ (0 : Int) = 1)]
            split <;> decide
          · rw [z, if_pos (rfl : (1 : Int) = 1)]
            split <;> decide
        have o01 : (dgS false (hexV (pk t n i)) q).2 = 0 ∨ (dgS false (hexV (pk t n i)) q).2 = 1 := dgS_01
        have vv : iL 10 * gL (sI ρ 80 13 (dgS false (hexV (pk t n i)) q).2) 80 12 + iL (hexV (pk t n i)) = (dgS false (hexV (pk t n i)) q).1 := by
          rw [gL_sI, h12, BitVec.mul_comm]
          rfl
        rw [e356_186, oo, if_pos ⟨ao80r, o01⟩, vv]
        generalize hqq : dgS false (hexV (pk t n i)) q = Q at *
        have g8' : gI (sL (sI ρ 80 13 Q.2) 80 12 Q.1) 80 8 = (i : Int) := by rw [gI_sL, gI_sI, if_neg (by decide)]; exact h8
        rw [g8', w32_s1 (by omega), un, e356_215]
        have fr : rqL (sI (sL (sI ρ 80 13 Q.2) 80 12 Q.1) 80 8 ((i + 1 : Nat) : Int)) ρ := rqL_t (rqL_I ⟨by omega, by omega⟩) (rqL_t rqL_L (rqL_I ⟨by omega, by omega⟩))
        have x := ih (i + 1) Q (sI (sL (sI ρ 80 13 Q.2) 80 12 Q.1) 80 8 ((i + 1 : Nat) : Int)) (by omega) (by omega) (rTx_q h fr) at8 (by rw [gL_sI, gL_sL, if_pos ⟨rfl, rfl⟩]) (by rw [gI_sI, if_neg (by decide), gI_sL, gI_sI, if_pos ⟨rfl, rfl⟩]) o01
        refine okc_q (by repeat (first | exact lq_nil | refine lq_cons (Or.inr rfl) ?_ | refine lq_cons (Or.inl rfl) ?_)) (okc_m x fun τ p => nuP_t fr ?_ ?_ p)
        · rw [gI_sI, if_neg (by decide), gI_sL, gI_sI, if_neg (by decide)]
        · rw [gI_sI, if_neg (by decide), gI_sL, gI_sI, if_neg (by decide)]
      rw [b2_yes b, if_neg (by decide), P0 h h8 hi]
      simp only [Option.bind_some, Option.toList_some, List.cons_append, List.nil_append]
      rw [e356_143, T389, w1, h12]
      simp only [Option.bind_some, Option.toList_some, List.cons_append, List.nil_append]
      rw [e356_162, h12, e356_181, e356_185]
      simp only [b2_n]
      by_cases c1 : iL 1844674407370955161 < q.1
      · rw [if_pos c1]
        exact key 1 (if_pos (Or.inl c1)).symm
      · rw [if_neg c1]
        by_cases c2 : q.1 = iL 1844674407370955161
        · rw [if_neg (fun z => z c2)]
          by_cases c3 : hexV (pk t n i) ≤ 5
          · rw [if_pos c3]
            exact key 0 (if_neg (fun z => z.elim c1 (fun y => by have := y.2; omega))).symm
          · rw [if_neg c3]
            exact key 1 (if_pos (Or.inr ⟨c2, by omega⟩)).symm
        · rw [if_pos c2]
          exact key 0 (if_neg (fun z => z.elim c1 (fun y => c2 y.1))).symm
    · rw [b2_no b, if_pos rfl]
      have : nuL t n false (n - i) i q = (i, q) := by
        cases n - i with
        | zero => rfl
        | succ m => exact if_neg (fun z : dgP false (pk t n i) => b z)
      rw [this]
      exact okc_s ⟨rqL_r _, rfl, rfl, h8, h12, h13⟩
theorem T356 (h : rTx σ t n) (h8 : gI σ 80 8 = (i : Int)) (hi : i ≤ n) : okc (MM 356 [mR (some 80)] σ) none (fun τ => rqL τ σ ∧ gI τ 80 9 = 3 ∧ gI τ 80 10 = gI σ 80 10 ∧ gI τ 80 8 = ((nuT t n i).1 : Int) ∧ gL τ 80 12 = (nuT t n i).2.1 ∧ gI τ 80 13 = (nuT t n i).2.2) := by
  obtain ⟨ρ, hρ⟩ : ∃ ρ, ρ = sI (sL (sI σ 80 9 3) 80 12 (BitVec.ofNat 64 0)) 80 13 0 := ⟨_, rfl⟩
  have fr : rqL ρ σ := by rw [hρ]; exact rqL_t (rqL_I ⟨by omega, by omega⟩) (rqL_t rqL_L (rqL_I ⟨by omega, by omega⟩))
  have h9 : gI ρ 80 9 = 3 := by rw [hρ, gI_sI, if_neg (by decide), gI_sL, gI_sI, if_pos ⟨rfl, rfl⟩]
  have h10 : gI ρ 80 10 = gI σ 80 10 := by rw [hρ, gI_sI, if_neg (by decide), gI_sL, gI_sI, if_neg (by decide)]
  have h8' : gI ρ 80 8 = (i : Int) := by rw [hρ, gI_sI, if_neg (by decide), gI_sL, gI_sI, if_neg (by decide)]; exact h8
  have h12 : gL ρ 80 12 = 0 := by rw [hρ, gL_sI, gL_sL, if_pos ⟨rfl, rfl⟩]; rfl
  have h13 : gI ρ 80 13 = 0 := by rw [hρ, gI_sI, if_pos ⟨rfl, rfl⟩]
  have r := rTx_q h fr
  have n4 := h.2.1
  have fin : ∀ {x : Nat × (B64 × Int)} {υ : MS} {o : Option Rs}, rqL υ ρ → gI υ 80 9 = gI ρ 80 9 → gI υ 80 10 = gI ρ 80 10 → okc o none (nuP υ x) → okc o none (fun τ => rqL τ σ ∧ gI τ 80 9 = 3 ∧ gI τ 80 10 = gI σ 80 10 ∧ gI τ 80 8 = (x.1 : Int) ∧ gL τ 80 12 = x.2.1 ∧ gI τ 80 13 = x.2.2) := fun a b c x => okc_m x fun τ p => ⟨rqL_t p.1 (rqL_t a fr), (p.2.1.trans b).trans h9, (p.2.2.1.trans c).trans h10, p.2.2.2⟩
  rw [M356, e356_0, ← hρ, e356_15, P0 r h8' hi]
  simp only [Option.bind_some, Option.toList_some, List.cons_append, List.nil_append]
  rw [e356_20]
  have dec : isHx t n i = false → okc (RR (lkB tb356) (B356_127, [some (mR (some 80)), none], [], ρ)) none (fun τ => rqL τ σ ∧ gI τ 80 9 = 3 ∧ gI τ 80 10 = gI σ 80 10 ∧ gI τ 80 8 = ((nuT t n i).1 : Int) ∧ gL τ 80 12 = (nuT t n i).2.1 ∧ gI τ 80 13 = (nuT t n i).2.2) := fun z => by
    have e : nuT t n i = nuL t n false (n - i) i (0, 0) := if_neg (by rw [z]; decide)
    rw [e]
    exact fin (rqL_r _) rfl rfl (L356d (n - i) i (0, 0) ρ (Nat.le_refl _) hi r h8' h12 h13 (Or.inl rfl))
  by_cases c1 : pk t n i = 48
  · rw [if_neg (fun z => z c1), P1 r h8' hi]
    simp only [Option.bind_some, Option.toList_some, List.cons_append, List.nil_append]
    rw [e356_30]
    by_cases c2 : pk t n (i + 1) = 120
    · have pb := pk_b (t := t) (n := n) (i := i + 2)
      rw [if_neg (fun z => z c2), P2 r h8' hi]
      simp only [Option.bind_some, Option.toList_some, List.cons_append, List.nil_append]
      rw [e356_40, T354 (by omega)]
      simp only [Option.bind_some, Option.toList_some, List.cons_append, List.nil_append]
      rw [e356_43]
      by_cases c3 : hexV (pk t n (i + 2)) < 0
      · rw [if_pos c3]
        exact dec (decide_eq_false (fun z => by have := z.2.2; omega))
      · have hx : isHx t n i = true := decide_eq_true ⟨c1, c2, by omega⟩
        have hl := hx_n hx
        have w2 : w32 (gI ρ 80 8 + 2) = ((i + 2 : Nat) : Int) := by rw [h8']; exact w32_a (b := 2) (by omega)
        have e : nuT t n i = nuL t n true (n - (i + 2)) (i + 2) (0, 0) := if_pos hx
        rw [if_neg c3, w2, e]
        refine fin (rqL_I ⟨by omega, by omega⟩) ?_ ?_ (L356h (n - (i + 2)) (i + 2) (0, 0) (sI ρ 80 8 ((i + 2 : Nat) : Int)) (Nat.le_refl _) (by omega) (rTx_8 r) at8 h12 ?_ (Or.inl rfl))
        · rw [gI_sI, if_neg (by decide)]
        · rw [gI_sI, if_neg (by decide)]
        · rw [gI_sI, if_neg (by decide)]
          exact h13
    · rw [if_pos c2]
      exact dec (decide_eq_false (fun z => c2 z.2.1))
  · rw [if_pos c1]
    exact dec (decide_eq_false (fun z => c1 z.1))
end RNU
