/-! ===== blocks by hand ===== -/
abbrev cMinI : BitVec 64 := iL (-9223372036854775808)
theorem sgf {tg : Nat → List Ins} {j pc c s k : Nat} {t : List (Int × Nat)} {r : List Ins} {ls : List (Option MV)} {st : List MV} {σ : MS} (h : ao σ c (some k)) : RR tg ((.getfield j, pc, c, s, 1, t) :: r, ls, mR (some k) :: st, σ) = RR tg (r, ls, mL (gL σ k s) :: st, σ) := (RR_ev tg 1 _).trans (if_pos h)
theorem spf {tg : Nat → List Ins} {j pc c s k : Nat} {t : List (Int × Nat)} {r : List Ins} {ls : List (Option MV)} {st : List MV} {σ : MS} {v : BitVec 64} (h : ao σ c (some k)) : RR tg ((.putfield j, pc, c, s, 1, t) :: r, ls, mL v :: mR (some k) :: st, σ) = RR tg (r, ls, st, sL σ k s v) := (RR_ev tg 1 _).trans (if_pos h)
theorem flip_lt (a b : BitVec 64) : (a + cMinI).toInt ≤ (b + cMinI).toInt ↔ ¬ b < a := by
  rw [toInt_flip, toInt_flip, BitVec.lt_def]
  omega
theorem flip_lt2 (a b : BitVec 64) : (a + cMinI).toInt < (b + cMinI).toInt ↔ a < b := by
  rw [toInt_flip, toInt_flip, BitVec.lt_def]
  omega
set_option maxRecDepth 100000 in
theorem M17 {x0 x2 : BitVec 64} {σ : MS} : MM 17 [mL x0, mL x2] σ = RR (lkB tb17) (B17_0, [some (mL x0), none, some (mL x2), none], [], σ) := rfl
theorem e17_0 {x0 x2 : BitVec 64} {σ : MS} : RR (lkB tb17) (B17_0, [some (mL x0), none, some (mL x2), none], [], σ) = (if ¬ x0 < x2 then some (some (mI 0), σ) else some (some (mI 1), σ)) := by
  have A : RR (lkB tb17) (B17_0, [some (mL x0), none, some (mL x2), none], [], σ) = RR (lkB tb17) (B17_0.drop 3, [some (mL x0), none, some (mL x2), none], [mL cMinI, mL x0], σ) := RR_ev _ 3 _
  have B : ∀ c : BitVec 64, RR (lkB tb17) (B17_0.drop 3, [some (mL x0), none, some (mL x2), none], [mL c, mL x0], σ) = RR (lkB tb17) (B17_0.drop 6, [some (mL x0), none, some (mL x2), none], [mL cMinI, mL x2, mL (x0 + c)], σ) := fun c => RR_ev _ 3 _
  have C : ∀ c y : BitVec 64, RR (lkB tb17) (B17_0.drop 6, [some (mL x0), none, some (mL x2), none], [mL c, mL x2, mL y], σ) = (if BitVec.toInt (x2 + c) ≤ BitVec.toInt y then some (some (mI 0), σ) else some (some (mI 1), σ)) := fun c y => RR_ev _ 6 _
  rw [A, B, C]
  simp only [flip_lt]
set_option maxRecDepth 100000 in
theorem M389 {x0 x2 : BitVec 64} {σ : MS} : MM 389 [mL x0, mL x2] σ = RR (lkB tb389) (B389_0, [some (mL x0), none, some (mL x2), none], [], σ) := rfl
theorem e389_0 {x0 x2 : BitVec 64} {σ : MS} : RR (lkB tb389) (B389_0, [some (mL x0), none, some (mL x2), none], [], σ) = (if ¬ x0 < x2 then some (some (mI 0), σ) else some (some (mI 1), σ)) := by
  have A : RR (lkB tb389) (B389_0, [some (mL x0), none, some (mL x2), none], [], σ) = RR (lkB tb389) (B389_0.drop 3, [some (mL x0), none, some (mL x2), none], [mL cMinI, mL x0], σ) := RR_ev _ 3 _
  have B : ∀ c : BitVec 64, RR (lkB tb389) (B389_0.drop 3, [some (mL x0), none, some (mL x2), none], [mL c, mL x0], σ) = RR (lkB tb389) (B389_0.drop 6, [some (mL x0), none, some (mL x2), none], [mL cMinI, mL x2, mL (x0 + c)], σ) := fun c => RR_ev _ 3 _
  have C : ∀ c y : BitVec 64, RR (lkB tb389) (B389_0.drop 6, [some (mL x0), none, some (mL x2), none], [mL c, mL x2, mL y], σ) = (if BitVec.toInt (x2 + c) ≤ BitVec.toInt y then some (some (mI 0), σ) else some (some (mI 1), σ)) := fun c y => RR_ev _ 6 _
  rw [A, B, C]
  simp only [flip_lt]
set_option maxRecDepth 100000 in
theorem M70 {x0 x2 : BitVec 64} {σ : MS} : MM 70 [mL x0, mL x2] σ = RR (lkB tb70) (B70_0, [some (mL x0), none, some (mL x2), none], [], σ) := rfl
theorem e70_0 {x0 x2 : BitVec 64} {σ : MS} : RR (lkB tb70) (B70_0, [some (mL x0), none, some (mL x2), none], [], σ) = (if ¬ x0 < x2 then some (some (mL x0), σ) else some (some (mL x2), σ)) := by
  have A : RR (lkB tb70) (B70_0, [some (mL x0), none, some (mL x2), none], [], σ) = RR (lkB tb70) (B70_0.drop 3, [some (mL x0), none, some (mL x2), none], [mL cMinI, mL x0], σ) := RR_ev _ 3 _
  have B : ∀ c : BitVec 64, RR (lkB tb70) (B70_0.drop 3, [some (mL x0), none, some (mL x2), none], [mL c, mL x0], σ) = RR (lkB tb70) (B70_0.drop 6, [some (mL x0), none, some (mL x2), none], [mL cMinI, mL x2, mL (x0 + c)], σ) := fun c => RR_ev _ 3 _
  have C : ∀ c y : BitVec 64, RR (lkB tb70) (B70_0.drop 6, [some (mL x0), none, some (mL x2), none], [mL c, mL x2, mL y], σ) = (if BitVec.toInt (x2 + c) ≤ BitVec.toInt y then some (some (mL x0), σ) else some (some (mL x2), σ)) := fun c y => RR_ev _ 6 _
  rw [A, B, C]
  simp only [flip_lt]
set_option maxRecDepth 100000 in
theorem M71 {x0 x2 : BitVec 64} {σ : MS} : MM 71 [mL x0, mL x2] σ = RR (lkB tb71) (B71_0, [some (mL x0), none, some (mL x2), none], [], σ) := rfl
theorem e71_0 {x0 x2 : BitVec 64} {σ : MS} : RR (lkB tb71) (B71_0, [some (mL x0), none, some (mL x2), none], [], σ) = (if ¬ x0 < x2 then some (some (mL x2), σ) else some (some (mL x0), σ)) := by
  have A : RR (lkB tb71) (B71_0, [some (mL x0), none, some (mL x2), none], [], σ) = RR (lkB tb71) (B71_0.drop 3, [some (mL x0), none, some (mL x2), none], [mL cMinI, mL x0], σ) := RR_ev _ 3 _
  have B : ∀ c : BitVec 64, RR (lkB tb71) (B71_0.drop 3, [some (mL x0), none, some (mL x2), none], [mL c, mL x0], σ) = RR (lkB tb71) (B71_0.drop 6, [some (mL x0), none, some (mL x2), none], [mL cMinI, mL x2, mL (x0 + c)], σ) := fun c => RR_ev _ 3 _
  have C : ∀ c y : BitVec 64, RR (lkB tb71) (B71_0.drop 6, [some (mL x0), none, some (mL x2), none], [mL c, mL x2, mL y], σ) = (if BitVec.toInt (x2 + c) ≤ BitVec.toInt y then some (some (mL x2), σ) else some (some (mL x0), σ)) := fun c y => RR_ev _ 6 _
  rw [A, B, C]
  simp only [flip_lt]
theorem T17 {x0 x2 : BitVec 64} {σ : MS} : MM 17 [mL x0, mL x2] σ = some (some (mI (b2 (x0 < x2))), σ) := by
  rw [M17, e17_0]
  unfold b2
  by_cases h : x0 < x2 <;> simp [h]
theorem T389 {x0 x2 : BitVec 64} {σ : MS} : MM 389 [mL x0, mL x2] σ = some (some (mI (b2 (x0 < x2))), σ) := by
  rw [M389, e389_0]
  unfold b2
  by_cases h : x0 < x2 <;> simp [h]
theorem T70 {x0 x2 : BitVec 64} {σ : MS} : MM 70 [mL x0, mL x2] σ = some (some (mL (bmax x0 x2)), σ) := by
  rw [M70, e70_0]
  unfold bmax
  by_cases h : x0 < x2 <;> simp [h]
theorem T71 {x0 x2 : BitVec 64} {σ : MS} : MM 71 [mL x0, mL x2] σ = some (some (mL (bmin x0 x2)), σ) := by
  rw [M71, e71_0]
  unfold bmin
  by_cases h : x0 < x2 <;> simp [h]
set_option maxRecDepth 100000 in
theorem M72 {x0 : Option Nat} {σ : MS} : MM 72 [mR x0] σ = RR (lkB tb72) (B72_0, [some (mR x0)], [], σ) := rfl
theorem e72_0 {k : Nat} {σ : MS} (h : ao σ 2 (some k)) : RR (lkB tb72) (B72_0, [some (mR (some k))], [], σ) = RR (lkB tb72) (B72_32, [some (mR (some k))], [mL (bmax (gL σ k 2) (gL σ k 0)), mR (some k)], σ) := by
  have A : RR (lkB tb72) (B72_0, [some (mR (some k))], [], σ) = RR (lkB tb72) ((.getfield 18, 2, 2, 2, 1, []) :: B72_0.drop 4, [some (mR (some k))], [mR (some k), mR (some k)], σ) := RR_ev _ 3 _
  have B : RR (lkB tb72) (B72_0.drop 4, [some (mR (some k))], [mL (gL σ k 2), mR (some k)], σ) = RR (lkB tb72) (B72_0.drop 5, [some (mR (some k))], [mL cMinI, mL (gL σ k 2), mR (some k)], σ) := RR_ev _ 1 _
  have C : ∀ c : BitVec 64, RR (lkB tb72) (B72_0.drop 5, [some (mR (some k))], [mL c, mL (gL σ k 2), mR (some k)], σ) = RR (lkB tb72) ((.getfield 9, 10, 2, 0, 1, []) :: B72_0.drop 8, [some (mR (some k))], [mR (some k), mL (gL σ k 2 + c), mR (some k)], σ) := fun c => RR_ev _ 2 _
  have D : ∀ y : BitVec 64, RR (lkB tb72) (B72_0.drop 8, [some (mR (some k))], [mL (gL σ k 0), mL y, mR (some k)], σ) = RR (lkB tb72) (B72_0.drop 9, [some (mR (some k))], [mL cMinI, mL (gL σ k 0), mL y, mR (some k)], σ) := fun y => RR_ev _ 1 _
  have E : ∀ c y : BitVec 64, RR (lkB tb72) (B72_0.drop 9, [some (mR (some k))], [mL c, mL (gL σ k 0), mL y, mR (some k)], σ) = (if BitVec.toInt (gL σ k 0 + c) ≤ BitVec.toInt y then RR (lkB tb72) (B72_28, [some (mR (some k))], [mR (some k)], σ) else RR (lkB tb72) (B72_0.drop 12, [some (mR (some k))], [mR (some k)], σ)) := fun c y => RR_ev _ 2 _
  have F : RR (lkB tb72) (B72_28, [some (mR (some k))], [mR (some k)], σ) = RR (lkB tb72) ((.getfield 18, 29, 2, 2, 1, []) :: B72_32, [some (mR (some k))], [mR (some k), mR (some k)], σ) := RR_ev _ 1 _
  have G : RR (lkB tb72) (B72_0.drop 12, [some (mR (some k))], [mR (some k)], σ) = RR (lkB tb72) ((.getfield 9, 22, 2, 0, 1, []) :: B72_0.drop 14, [some (mR (some k))], [mR (some k), mR (some k)], σ) := RR_ev _ 1 _
  have I : RR (lkB tb72) (B72_0.drop 14, [some (mR (some k))], [mL (gL σ k 0), mR (some k)], σ) = RR (lkB tb72) (B72_32, [some (mR (some k))], [mL (gL σ k 0), mR (some k)], σ) := RR_ev _ 1 _
  rw [A, sgf h, B, C, sgf h, D, E, F, G, sgf h, sgf h, I]
  simp only [flip_lt]
  unfold bmax
  by_cases h5 : gL σ k 2 < gL σ k 0
  · rw [if_neg (not_not_intro h5), if_pos h5]
  · rw [if_pos h5, if_neg h5]
theorem e72_32 {k : Nat} {σ : MS} {y1 : BitVec 64} (h : ao σ 2 (some k)) : RR (lkB tb72) (B72_32, [some (mR (some k))], [mL y1, mR (some k)], σ) = RR (lkB tb72) (B72_77, [some (mR (some k))], [mL (bmin (gL (sL σ k 2 y1) k 3) (gL (sL σ k 2 y1) k 0 ||| gL (sL σ k 2 y1) k 1)), mR (some k)], sL σ k 2 y1) := by
  have A : RR (lkB tb72) (B72_32, [some (mR (some k))], [mL y1, mR (some k)], σ) = RR (lkB tb72) ((.putfield 18, 32, 2, 2, 1, []) :: B72_32.drop 2, [some (mR (some k))], [mL y1, mR (some k)], σ) := RR_ev _ 1 _
  rw [A, spf h]
  have h : ao (sL σ k 2 y1) 2 (some k) := h
  generalize sL σ k 2 y1 = σ at h ⊢
  have A : RR (lkB tb72) (B72_32.drop 2, [some (mR (some k))], [], σ) = RR (lkB tb72) ((.getfield 21, 37, 2, 3, 1, []) :: B72_32.drop 5, [some (mR (some k))], [mR (some k), mR (some k)], σ) := RR_ev _ 2 _
  have B : RR (lkB tb72) (B72_32.drop 5, [some (mR (some k))], [mL (gL σ k 3), mR (some k)], σ) = RR (lkB tb72) (B72_32.drop 6, [some (mR (some k))], [mL cMinI, mL (gL σ k 3), mR (some k)], σ) := RR_ev _ 1 _
  have C : ∀ c : BitVec 64, RR (lkB tb72) (B72_32.drop 6, [some (mR (some k))], [mL c, mL (gL σ k 3), mR (some k)], σ) = RR (lkB tb72) ((.getfield 9, 45, 2, 0, 1, []) :: B72_32.drop 9, [some (mR (some k))], [mR (some k), mL (gL σ k 3 + c), mR (some k)], σ) := fun c => RR_ev _ 2 _
  have D : ∀ y : BitVec 64, RR (lkB tb72) (B72_32.drop 9, [some (mR (some k))], [mL (gL σ k 0), mL y, mR (some k)], σ) = RR (lkB tb72) ((.getfield 15, 49, 2, 1, 1, []) :: B72_32.drop 11, [some (mR (some k))], [mR (some k), mL (gL σ k 0), mL y, mR (some k)], σ) := fun y => RR_ev _ 1 _
  have D2 : ∀ y : BitVec 64, RR (lkB tb72) (B72_32.drop 11, [some (mR (some k))], [mL (gL σ k 1), mL (gL σ k 0), mL y, mR (some k)], σ) = RR (lkB tb72) (B72_32.drop 13, [some (mR (some k))], [mL cMinI, mL (gL σ k 0 ||| gL σ k 1), mL y, mR (some k)], σ) := fun y => RR_ev _ 2 _
  have E : ∀ c y z : BitVec 64, RR (lkB tb72) (B72_32.drop 13, [some (mR (some k))], [mL c, mL z, mL y, mR (some k)], σ) = (if BitVec.toInt (z + c) ≤ BitVec.toInt y then RR (lkB tb72) (B72_68, [some (mR (some k))], [mR (some k)], σ) else RR (lkB tb72) (B72_32.drop 16, [some (mR (some k))], [mR (some k)], σ)) := fun c y z => RR_ev _ 2 _
  have F : RR (lkB tb72) (B72_68, [some (mR (some k))], [mR (some k)], σ) = RR (lkB tb72) ((.getfield 9, 69, 2, 0, 1, []) :: B72_68.drop 2, [some (mR (some k))], [mR (some k), mR (some k)], σ) := RR_ev _ 1 _
  have F2 : RR (lkB tb72) (B72_68.drop 2, [some (mR (some k))], [mL (gL σ k 0), mR (some k)], σ) = RR (lkB tb72) ((.getfield 15, 73, 2, 1, 1, []) :: B72_68.drop 4, [some (mR (some k))], [mR (some k), mL (gL σ k 0), mR (some k)], σ) := RR_ev _ 1 _
  have F3 : RR (lkB tb72) (B72_68.drop 4, [some (mR (some k))], [mL (gL σ k 1), mL (gL σ k 0), mR (some k)], σ) = RR (lkB tb72) (B72_77, [some (mR (some k))], [mL (gL σ k 0 ||| gL σ k 1), mR (some k)], σ) := RR_ev _ 1 _
  have G : RR (lkB tb72) (B72_32.drop 16, [some (mR (some k))], [mR (some k)], σ) = RR (lkB tb72) ((.getfield 21, 62, 2, 3, 1, []) :: B72_32.drop 18, [some (mR (some k))], [mR (some k), mR (some k)], σ) := RR_ev _ 1 _
  have I : RR (lkB tb72) (B72_32.drop 18, [some (mR (some k))], [mL (gL σ k 3), mR (some k)], σ) = RR (lkB tb72) (B72_77, [some (mR (some k))], [mL (gL σ k 3), mR (some k)], σ) := RR_ev _ 1 _
  rw [A, sgf h, B, C, sgf h, D, sgf h, D2, E, F, sgf h, F2, sgf h, F3, G, sgf h, I]
  simp only [flip_lt]
  unfold bmin
  by_cases h5 : gL σ k 3 < gL σ k 0 ||| gL σ k 1
  · rw [if_neg (not_not_intro h5), if_pos h5]
  · rw [if_pos h5, if_neg h5]
theorem e73_173 {k : Nat} {x1 : BitVec 64} {σ : MS} (h : ao σ 2 (some k)) : RR (lkB tb73) (B73_173, [some (mR (some k)), some (mL x1), none], [], σ) = if gL σ k 3 < gL σ k 2 then RR (lkB tb73) (B73_209, [some (mR (some k)), some (mL x1), none], [], σ) else if (gL σ k 5).toInt < (gL σ k 4).toInt then RR (lkB tb73) (B73_209, [some (mR (some k)), some (mL x1), none], [], σ) else some (some (mI 1), σ) := by
  have A : RR (lkB tb73) (B73_173, [some (mR (some k)), some (mL x1), none], [], σ) = RR (lkB tb73) ((.getfield 18, 174, 2, 2, 1, []) :: B73_173.drop 3, [some (mR (some k)), some (mL x1), none], [mR (some k)], σ) := RR_ev _ 2 _
  have B : RR (lkB tb73) (B73_173.drop 3, [some (mR (some k)), some (mL x1), none], [mL (gL σ k 2)], σ) = RR (lkB tb73) (B73_173.drop 4, [some (mR (some k)), some (mL x1), none], [mL cMinI, mL (gL σ k 2)], σ) := RR_ev _ 1 _
  have C : ∀ c : BitVec 64, RR (lkB tb73) (B73_173.drop 4, [some (mR (some k)), some (mL x1), none], [mL c, mL (gL σ k 2)], σ) = RR (lkB tb73) ((.getfield 21, 182, 2, 3, 1, []) :: B73_173.drop 7, [some (mR (some k)), some (mL x1), none], [mR (some k), mL (gL σ k 2 + c)], σ) := fun c => RR_ev _ 2 _
  have D : ∀ y : BitVec 64, RR (lkB tb73) (B73_173.drop 7, [some (mR (some k)), some (mL x1), none], [mL (gL σ k 3), mL y], σ) = RR (lkB tb73) (B73_173.drop 8, [some (mR (some k)), some (mL x1), none], [mL cMinI, mL (gL σ k 3), mL y], σ) := fun y => RR_ev _ 1 _
  have E : ∀ c y : BitVec 64, RR (lkB tb73) (B73_173.drop 8, [some (mR (some k)), some (mL x1), none], [mL c, mL (gL σ k 3), mL y], σ) = (if BitVec.toInt (gL σ k 3 + c) < BitVec.toInt y then RR (lkB tb73) (B73_209, [some (mR (some k)), some (mL x1), none], [], σ) else RR (lkB tb73) (B73_173.drop 11, [some (mR (some k)), some (mL x1), none], [], σ)) := fun c y => RR_ev _ 2 _
  have F : RR (lkB tb73) (B73_173.drop 11, [some (mR (some k)), some (mL x1), none], [], σ) = RR (lkB tb73) ((.getfield 24, 194, 2, 4, 1, []) :: B73_173.drop 13, [some (mR (some k)), some (mL x1), none], [mR (some k)], σ) := RR_ev _ 1 _
  have F2 : RR (lkB tb73) (B73_173.drop 13, [some (mR (some k)), some (mL x1), none], [mL (gL σ k 4)], σ) = RR (lkB tb73) ((.getfield 27, 198, 2, 5, 1, []) :: B73_173.drop 15, [some (mR (some k)), some (mL x1), none], [mR (some k), mL (gL σ k 4)], σ) := RR_ev _ 1 _
  have F3 : RR (lkB tb73) (B73_173.drop 15, [some (mR (some k)), some (mL x1), none], [mL (gL σ k 5), mL (gL σ k 4)], σ) = (if BitVec.toInt (gL σ k 5) < BitVec.toInt (gL σ k 4) then RR (lkB tb73) (B73_209, [some (mR (some k)), some (mL x1), none], [], σ) else RR (lkB tb73) (B73_173.drop 17, [some (mR (some k)), some (mL x1), none], [], σ)) := RR_ev _ 1 _
  have F4 : RR (lkB tb73) (B73_173.drop 17, [some (mR (some k)), some (mL x1), none], [], σ) = some (some (mI 1), σ) := (RR_ev _ 4 _).trans rfl
  rw [A, sgf h, B, C, sgf h, D, E, F, sgf h, F2, sgf h, F3, F4]
  simp only [flip_lt2]
