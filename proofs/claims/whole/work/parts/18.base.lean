/-! ===== reading and writing the store ===== -/
theorem gI_sI (σ : MS) (k s : Nat) (v : Int) (k' s' : Nat) : gI (sI σ k s v) k' s' = if k' = k ∧ s' = s then v else gI σ k' s' := rfl
theorem gL_sL (σ : MS) (k s : Nat) (v : BitVec 64) (k' s' : Nat) : gL (sL σ k s v) k' s' = if k' = k ∧ s' = s then v else gL σ k' s' := rfl
theorem gR_sR (σ : MS) (k s : Nat) (v : Option Nat) (k' s' : Nat) : gR (sR σ k s v) k' s' = if k' = k ∧ s' = s then v else gR σ k' s' := rfl
theorem gI_sL (σ : MS) (k s : Nat) (v : BitVec 64) (k' s' : Nat) : gI (sL σ k s v) k' s' = gI σ k' s' := rfl
theorem gI_sR (σ : MS) (k s : Nat) (v : Option Nat) (k' s' : Nat) : gI (sR σ k s v) k' s' = gI σ k' s' := rfl
theorem gL_sI (σ : MS) (k s : Nat) (v : Int) (k' s' : Nat) : gL (sI σ k s v) k' s' = gL σ k' s' := rfl
theorem gL_sR (σ : MS) (k s : Nat) (v : Option Nat) (k' s' : Nat) : gL (sR σ k s v) k' s' = gL σ k' s' := rfl
theorem gR_sI (σ : MS) (k s : Nat) (v : Int) (k' s' : Nat) : gR (sI σ k s v) k' s' = gR σ k' s' := rfl
theorem gR_sL (σ : MS) (k s : Nat) (v : BitVec 64) (k' s' : Nat) : gR (sL σ k s v) k' s' = gR σ k' s' := rfl
theorem kd_I (σ : MS) (k s : Nat) (v : Int) (j : Nat) : kd (sI σ k s v) j = kd σ j := rfl
theorem kd_L (σ : MS) (k s : Nat) (v : BitVec 64) (j : Nat) : kd (sL σ k s v) j = kd σ j := rfl
theorem kd_R (σ : MS) (k s : Nat) (v : Option Nat) (j : Nat) : kd (sR σ k s v) j = kd σ j := rfl
theorem nC_I (σ : MS) (k s : Nat) (v : Int) : nC (sI σ k s v) = nC σ := rfl
theorem nC_L (σ : MS) (k s : Nat) (v : BitVec 64) : nC (sL σ k s v) = nC σ := rfl
theorem nC_R (σ : MS) (k s : Nat) (v : Option Nat) : nC (sR σ k s v) = nC σ := rfl
theorem ab_I (σ : MS) (k s : Nat) (v : Int) (ty j : Nat) (i : Int) : ab (sI σ k s v) ty j i = ab σ ty j i := rfl
theorem ab_L (σ : MS) (k s : Nat) (v : BitVec 64) (ty j : Nat) (i : Int) : ab (sL σ k s v) ty j i = ab σ ty j i := rfl
theorem ab_R (σ : MS) (k s : Nat) (v : Option Nat) (ty j : Nat) (i : Int) : ab (sR σ k s v) ty j i = ab σ ty j i := rfl
theorem ao_I (σ : MS) (k s : Nat) (v : Int) (c : Nat) (x : Option Nat) : ao (sI σ k s v) c x = ao σ c x := rfl
theorem ao_L (σ : MS) (k s : Nat) (v : BitVec 64) (c : Nat) (x : Option Nat) : ao (sL σ k s v) c x = ao σ c x := rfl
theorem ao_R (σ : MS) (k s : Nat) (v : Option Nat) (c : Nat) (x : Option Nat) : ao (sR σ k s v) c x = ao σ c x := rfl
/-- an access to a cell that is always there -/
theorem gdK {σ : MS} {k ty n : Nat} {i : Int} (h : kd σ k = (ty, n)) : (Option.isSome (some k) = true ∧ ab σ ty k i) = (0 ≤ i ∧ i < (n : Int)) := by
  unfold ab
  rw [h]
  exact propext ⟨fun q => q.2.2, fun q => ⟨rfl, rfl, q⟩⟩
/-- ways that meet again -/
theorem mrgI {T : Nat → List Ins} {c : Prop} {d : Decidable c} {B : List Ins} {L : List (Option MV)} {a b : Int} {s : List MV} {σ : MS} : (@ite _ c d (RR T (B, L, mI a :: s, σ)) (RR T (B, L, mI b :: s, σ))) = RR T (B, L, mI (@ite _ c d a b) :: s, σ) := by
  split <;> rfl
theorem mrgL {T : Nat → List Ins} {c : Prop} {d : Decidable c} {B : List Ins} {L : List (Option MV)} {a b : BitVec 64} {s : List MV} {σ : MS} : (@ite _ c d (RR T (B, L, mL a :: s, σ)) (RR T (B, L, mL b :: s, σ))) = RR T (B, L, mL (@ite _ c d a b) :: s, σ) := by
  split <;> rfl
theorem mrg0 {T : Nat → List Ins} {c : Prop} {d : Decidable c} {B : List Ins} {L : List (Option MV)} {s : List MV} {σ σ1 : MS} : (@ite _ c d (RR T (B, L, s, σ)) (RR T (B, L, s, σ1))) = RR T (B, L, s, @ite _ c d σ σ1) := by
  split <;> rfl
theorem rtI {c : Prop} {d : Decidable c} {a b : Int} {σ : MS} : (@ite (Option Rs) c d (some (some (mI a), σ)) (some (some (mI b), σ))) = some (some (mI (@ite _ c d a b)), σ) := by
  split <;> rfl
theorem rtL {c : Prop} {d : Decidable c} {a b : BitVec 64} {σ : MS} : (@ite (Option Rs) c d (some (some (mL a), σ)) (some (some (mL b), σ))) = some (some (mL (@ite _ c d a b)), σ) := by
  split <;> rfl
/-- a truth as an int -/
def b2 (p : Prop) [Decidable p] : Int := if p then 1 else 0
theorem b2_0 {p : Prop} [Decidable p] : (b2 p = 0) = ¬ p := by
  unfold b2
  split <;> simp_all
theorem b2_n {p : Prop} [Decidable p] : (¬ b2 p = 0) = p := by
  unfold b2
  split <;> simp_all
theorem ite01 {p : Prop} {d : Decidable p} : (@ite Int p d 1 0) = @b2 p d := rfl
theorem ite10 {p : Prop} {d : Decidable p} : (@ite Int p d 0 1) = @b2 (¬ p) (@instDecidableNot p d) := by
  unfold b2
  split <;> simp_all
theorem toInt_flip (a : BitVec 64) : (a + iL (-9223372036854775808)).toInt = (a.toNat : Int) - 9223372036854775808 := by
  have h : (iL (-9223372036854775808)).toNat = 9223372036854775808 := by decide
  rw [BitVec.toInt_eq_toNat_cond, BitVec.toNat_add, h]
  have := a.isLt
  split <;> omega
theorem kc_0 (σ : MS) : kd σ 0 = (30, 0) := rfl
theorem g_1 {σ : MS} {i : Int} : (Option.isSome (some 1) = true ∧ ab σ 1 1 i) = (0 ≤ i ∧ i < 4000) := gdK (n := 4000) rfl
theorem kc_1 (σ : MS) : kd σ 1 = (1, 4000) := rfl
theorem kc_2 (σ : MS) : kd σ 2 = (23, 0) := rfl
theorem g_3 {σ : MS} {i : Int} : (Option.isSome (some 3) = true ∧ ab σ 1 3 i) = (0 ≤ i ∧ i < 8192) := gdK (n := 8192) rfl
theorem kc_3 (σ : MS) : kd σ 3 = (1, 8192) := rfl
theorem g_4 {σ : MS} {i : Int} : (Option.isSome (some 4) = true ∧ ab σ 1 4 i) = (0 ≤ i ∧ i < 20) := gdK (n := 20) rfl
theorem kc_4 (σ : MS) : kd σ 4 = (1, 20) := rfl
theorem kc_5 (σ : MS) : kd σ 5 = (27, 0) := rfl
theorem g_6 {σ : MS} {i : Int} : (Option.isSome (some 6) = true ∧ ab σ 6 6 i) = (0 ≤ i ∧ i < 8) := gdK (n := 8) rfl
theorem kc_6 (σ : MS) : kd σ 6 = (6, 8) := rfl
theorem g_7 {σ : MS} {i : Int} : (Option.isSome (some 7) = true ∧ ab σ 4 7 i) = (0 ≤ i ∧ i < 200) := gdK (n := 200) rfl
theorem kc_7 (σ : MS) : kd σ 7 = (4, 200) := rfl
theorem g_8 {σ : MS} {i : Int} : (Option.isSome (some 8) = true ∧ ab σ 4 8 i) = (0 ≤ i ∧ i < 200) := gdK (n := 200) rfl
theorem kc_8 (σ : MS) : kd σ 8 = (4, 200) := rfl
theorem g_9 {σ : MS} {i : Int} : (Option.isSome (some 9) = true ∧ ab σ 4 9 i) = (0 ≤ i ∧ i < 200) := gdK (n := 200) rfl
theorem kc_9 (σ : MS) : kd σ 9 = (4, 200) := rfl
theorem g_10 {σ : MS} {i : Int} : (Option.isSome (some 10) = true ∧ ab σ 4 10 i) = (0 ≤ i ∧ i < 200) := gdK (n := 200) rfl
theorem kc_10 (σ : MS) : kd σ 10 = (4, 200) := rfl
theorem g_11 {σ : MS} {i : Int} : (Option.isSome (some 11) = true ∧ ab σ 4 11 i) = (0 ≤ i ∧ i < 200) := gdK (n := 200) rfl
theorem kc_11 (σ : MS) : kd σ 11 = (4, 200) := rfl
theorem g_12 {σ : MS} {i : Int} : (Option.isSome (some 12) = true ∧ ab σ 4 12 i) = (0 ≤ i ∧ i < 200) := gdK (n := 200) rfl
theorem kc_12 (σ : MS) : kd σ 12 = (4, 200) := rfl
theorem g_13 {σ : MS} {i : Int} : (Option.isSome (some 13) = true ∧ ab σ 4 13 i) = (0 ≤ i ∧ i < 200) := gdK (n := 200) rfl
theorem kc_13 (σ : MS) : kd σ 13 = (4, 200) := rfl
theorem g_14 {σ : MS} {i : Int} : (Option.isSome (some 14) = true ∧ ab σ 4 14 i) = (0 ≤ i ∧ i < 200) := gdK (n := 200) rfl
theorem kc_14 (σ : MS) : kd σ 14 = (4, 200) := rfl
theorem g_15 {σ : MS} {i : Int} : (Option.isSome (some 15) = true ∧ ab σ 3 15 i) = (0 ≤ i ∧ i < 8) := gdK (n := 8) rfl
theorem kc_15 (σ : MS) : kd σ 15 = (3, 8) := rfl
theorem g_16 {σ : MS} {i : Int} : (Option.isSome (some 16) = true ∧ ab σ 2 16 i) = (0 ≤ i ∧ i < 8) := gdK (n := 8) rfl
theorem kc_16 (σ : MS) : kd σ 16 = (2, 8) := rfl
theorem g_17 {σ : MS} {i : Int} : (Option.isSome (some 17) = true ∧ ab σ 2 17 i) = (0 ≤ i ∧ i < 8) := gdK (n := 8) rfl
theorem kc_17 (σ : MS) : kd σ 17 = (2, 8) := rfl
theorem kc_18 (σ : MS) : kd σ 18 = (25, 0) := rfl
theorem g_19 {σ : MS} {i : Int} : (Option.isSome (some 19) = true ∧ ab σ 4 19 i) = (0 ≤ i ∧ i < 200) := gdK (n := 200) rfl
theorem kc_19 (σ : MS) : kd σ 19 = (4, 200) := rfl
theorem g_20 {σ : MS} {i : Int} : (Option.isSome (some 20) = true ∧ ab σ 3 20 i) = (0 ≤ i ∧ i < 4001) := gdK (n := 4001) rfl
theorem kc_20 (σ : MS) : kd σ 20 = (3, 4001) := rfl
theorem g_21 {σ : MS} {i : Int} : (Option.isSome (some 21) = true ∧ ab σ 3 21 i) = (0 ≤ i ∧ i < 4001) := gdK (n := 4001) rfl
theorem kc_21 (σ : MS) : kd σ 21 = (3, 4001) := rfl
theorem g_22 {σ : MS} {i : Int} : (Option.isSome (some 22) = true ∧ ab σ 3 22 i) = (0 ≤ i ∧ i < 4001) := gdK (n := 4001) rfl
theorem kc_22 (σ : MS) : kd σ 22 = (3, 4001) := rfl
theorem g_23 {σ : MS} {i : Int} : (Option.isSome (some 23) = true ∧ ab σ 4 23 i) = (0 ≤ i ∧ i < 4001) := gdK (n := 4001) rfl
theorem kc_23 (σ : MS) : kd σ 23 = (4, 4001) := rfl
theorem g_24 {σ : MS} {i : Int} : (Option.isSome (some 24) = true ∧ ab σ 3 24 i) = (0 ≤ i ∧ i < 4000) := gdK (n := 4000) rfl
theorem kc_24 (σ : MS) : kd σ 24 = (3, 4000) := rfl
theorem g_25 {σ : MS} {i : Int} : (Option.isSome (some 25) = true ∧ ab σ 3 25 i) = (0 ≤ i ∧ i < 400) := gdK (n := 400) rfl
theorem kc_25 (σ : MS) : kd σ 25 = (3, 400) := rfl
theorem kc_26 (σ : MS) : kd σ 26 = (21, 0) := rfl
theorem g_27 {σ : MS} {i : Int} : (Option.isSome (some 27) = true ∧ ab σ 1 27 i) = (0 ≤ i ∧ i < 25364) := gdK (n := 25364) rfl
theorem kc_27 (σ : MS) : kd σ 27 = (1, 25364) := rfl
theorem g_28 {σ : MS} {i : Int} : (Option.isSome (some 28) = true ∧ ab σ 1 28 i) = (0 ≤ i ∧ i < 4096) := gdK (n := 4096) rfl
theorem kc_28 (σ : MS) : kd σ 28 = (1, 4096) := rfl
theorem g_29 {σ : MS} {i : Int} : (Option.isSome (some 29) = true ∧ ab σ 2 29 i) = (0 ≤ i ∧ i < 8) := gdK (n := 8) rfl
theorem kc_29 (σ : MS) : kd σ 29 = (2, 8) := rfl
theorem g_30 {σ : MS} {i : Int} : (Option.isSome (some 30) = true ∧ ab σ 3 30 i) = (0 ≤ i ∧ i < 8) := gdK (n := 8) rfl
theorem kc_30 (σ : MS) : kd σ 30 = (3, 8) := rfl
theorem g_31 {σ : MS} {i : Int} : (Option.isSome (some 31) = true ∧ ab σ 3 31 i) = (0 ≤ i ∧ i < 8) := gdK (n := 8) rfl
theorem kc_31 (σ : MS) : kd σ 31 = (3, 8) := rfl
theorem g_32 {σ : MS} {i : Int} : (Option.isSome (some 32) = true ∧ ab σ 3 32 i) = (0 ≤ i ∧ i < 8) := gdK (n := 8) rfl
theorem kc_32 (σ : MS) : kd σ 32 = (3, 8) := rfl
theorem g_33 {σ : MS} {i : Int} : (Option.isSome (some 33) = true ∧ ab σ 3 33 i) = (0 ≤ i ∧ i < 8) := gdK (n := 8) rfl
theorem kc_33 (σ : MS) : kd σ 33 = (3, 8) := rfl
theorem g_34 {σ : MS} {i : Int} : (Option.isSome (some 34) = true ∧ ab σ 3 34 i) = (0 ≤ i ∧ i < 8) := gdK (n := 8) rfl
theorem kc_34 (σ : MS) : kd σ 34 = (3, 8) := rfl
theorem g_35 {σ : MS} {i : Int} : (Option.isSome (some 35) = true ∧ ab σ 3 35 i) = (0 ≤ i ∧ i < 128) := gdK (n := 128) rfl
theorem kc_35 (σ : MS) : kd σ 35 = (3, 128) := rfl
theorem g_36 {σ : MS} {i : Int} : (Option.isSome (some 36) = true ∧ ab σ 3 36 i) = (0 ≤ i ∧ i < 128) := gdK (n := 128) rfl
theorem kc_36 (σ : MS) : kd σ 36 = (3, 128) := rfl
theorem g_37 {σ : MS} {i : Int} : (Option.isSome (some 37) = true ∧ ab σ 1 37 i) = (0 ≤ i ∧ i < 256) := gdK (n := 256) rfl
theorem kc_37 (σ : MS) : kd σ 37 = (1, 256) := rfl
theorem g_38 {σ : MS} {i : Int} : (Option.isSome (some 38) = true ∧ ab σ 3 38 i) = (0 ≤ i ∧ i < 8) := gdK (n := 8) rfl
theorem kc_38 (σ : MS) : kd σ 38 = (3, 8) := rfl
theorem kc_39 (σ : MS) : kd σ 39 = (20, 0) := rfl
theorem kc_40 (σ : MS) : kd σ 40 = (29, 0) := rfl
theorem kc_41 (σ : MS) : kd σ 41 = (22, 0) := rfl
theorem kc_42 (σ : MS) : kd σ 42 = (22, 0) := rfl
theorem kc_43 (σ : MS) : kd σ 43 = (22, 0) := rfl
theorem kc_44 (σ : MS) : kd σ 44 = (22, 0) := rfl
theorem kc_45 (σ : MS) : kd σ 45 = (22, 0) := rfl
theorem kc_46 (σ : MS) : kd σ 46 = (22, 0) := rfl
theorem kc_47 (σ : MS) : kd σ 47 = (22, 0) := rfl
theorem kc_48 (σ : MS) : kd σ 48 = (22, 0) := rfl
theorem kc_49 (σ : MS) : kd σ 49 = (22, 0) := rfl
theorem kc_50 (σ : MS) : kd σ 50 = (22, 0) := rfl
theorem g_51 {σ : MS} {i : Int} : (Option.isSome (some 51) = true ∧ ab σ 3 51 i) = (0 ≤ i ∧ i < 6) := gdK (n := 6) rfl
theorem kc_51 (σ : MS) : kd σ 51 = (3, 6) := rfl
theorem g_52 {σ : MS} {i : Int} : (Option.isSome (some 52) = true ∧ ab σ 2 52 i) = (0 ≤ i ∧ i < 200) := gdK (n := 200) rfl
theorem kc_52 (σ : MS) : kd σ 52 = (2, 200) := rfl
theorem g_53 {σ : MS} {i : Int} : (Option.isSome (some 53) = true ∧ ab σ 4 53 i) = (0 ≤ i ∧ i < 22000) := gdK (n := 22000) rfl
theorem kc_53 (σ : MS) : kd σ 53 = (4, 22000) := rfl
theorem g_54 {σ : MS} {i : Int} : (Option.isSome (some 54) = true ∧ ab σ 2 54 i) = (0 ≤ i ∧ i < 200) := gdK (n := 200) rfl
theorem kc_54 (σ : MS) : kd σ 54 = (2, 200) := rfl
theorem g_55 {σ : MS} {i : Int} : (Option.isSome (some 55) = true ∧ ab σ 2 55 i) = (0 ≤ i ∧ i < 200) := gdK (n := 200) rfl
theorem kc_55 (σ : MS) : kd σ 55 = (2, 200) := rfl
theorem g_56 {σ : MS} {i : Int} : (Option.isSome (some 56) = true ∧ ab σ 2 56 i) = (0 ≤ i ∧ i < 200) := gdK (n := 200) rfl
theorem kc_56 (σ : MS) : kd σ 56 = (2, 200) := rfl
theorem g_57 {σ : MS} {i : Int} : (Option.isSome (some 57) = true ∧ ab σ 3 57 i) = (0 ≤ i ∧ i < 200) := gdK (n := 200) rfl
theorem kc_57 (σ : MS) : kd σ 57 = (3, 200) := rfl
theorem g_58 {σ : MS} {i : Int} : (Option.isSome (some 58) = true ∧ ab σ 5 58 i) = (0 ≤ i ∧ i < 250) := gdK (n := 250) rfl
theorem kc_58 (σ : MS) : kd σ 58 = (5, 250) := rfl
theorem g_59 {σ : MS} {i : Int} : (Option.isSome (some 59) = true ∧ ab σ 5 59 i) = (0 ≤ i ∧ i < 60) := gdK (n := 60) rfl
theorem kc_59 (σ : MS) : kd σ 59 = (5, 60) := rfl
theorem g_60 {σ : MS} {i : Int} : (Option.isSome (some 60) = true ∧ ab σ 5 60 i) = (0 ≤ i ∧ i < 200) := gdK (n := 200) rfl
theorem kc_60 (σ : MS) : kd σ 60 = (5, 200) := rfl
theorem g_61 {σ : MS} {i : Int} : (Option.isSome (some 61) = true ∧ ab σ 5 61 i) = (0 ≤ i ∧ i < 200) := gdK (n := 200) rfl
theorem kc_61 (σ : MS) : kd σ 61 = (5, 200) := rfl
theorem kc_62 (σ : MS) : kd σ 62 = (28, 0) := rfl
theorem g_63 {σ : MS} {i : Int} : (Option.isSome (some 63) = true ∧ ab σ 4 63 i) = (0 ≤ i ∧ i < 1188) := gdK (n := 1188) rfl
theorem kc_63 (σ : MS) : kd σ 63 = (4, 1188) := rfl
theorem g_64 {σ : MS} {i : Int} : (Option.isSome (some 64) = true ∧ ab σ 3 64 i) = (0 ≤ i ∧ i < 4) := gdK (n := 4) rfl
theorem kc_64 (σ : MS) : kd σ 64 = (3, 4) := rfl
theorem g_65 {σ : MS} {i : Int} : (Option.isSome (some 65) = true ∧ ab σ 3 65 i) = (0 ≤ i ∧ i < 64) := gdK (n := 64) rfl
theorem kc_65 (σ : MS) : kd σ 65 = (3, 64) := rfl
theorem kc_66 (σ : MS) : kd σ 66 = (28, 0) := rfl
theorem g_67 {σ : MS} {i : Int} : (Option.isSome (some 67) = true ∧ ab σ 4 67 i) = (0 ≤ i ∧ i < 1188) := gdK (n := 1188) rfl
theorem kc_67 (σ : MS) : kd σ 67 = (4, 1188) := rfl
theorem g_68 {σ : MS} {i : Int} : (Option.isSome (some 68) = true ∧ ab σ 3 68 i) = (0 ≤ i ∧ i < 4) := gdK (n := 4) rfl
theorem kc_68 (σ : MS) : kd σ 68 = (3, 4) := rfl
theorem g_69 {σ : MS} {i : Int} : (Option.isSome (some 69) = true ∧ ab σ 3 69 i) = (0 ≤ i ∧ i < 64) := gdK (n := 64) rfl
theorem kc_69 (σ : MS) : kd σ 69 = (3, 64) := rfl
theorem g_70 {σ : MS} {i : Int} : (Option.isSome (some 70) = true ∧ ab σ 3 70 i) = (0 ≤ i ∧ i < 345) := gdK (n := 345) rfl
theorem kc_70 (σ : MS) : kd σ 70 = (3, 345) := rfl
theorem kc_71 (σ : MS) : kd σ 71 = (26, 0) := rfl
theorem kc_72 (σ : MS) : kd σ 72 = (24, 0) := rfl
theorem g_73 {σ : MS} {i : Int} : (Option.isSome (some 73) = true ∧ ab σ 7 73 i) = (0 ≤ i ∧ i < 8) := gdK (n := 8) rfl
theorem kc_73 (σ : MS) : kd σ 73 = (7, 8) := rfl
theorem g_74 {σ : MS} {i : Int} : (Option.isSome (some 74) = true ∧ ab σ 3 74 i) = (0 ≤ i ∧ i < 8) := gdK (n := 8) rfl
theorem kc_74 (σ : MS) : kd σ 74 = (3, 8) := rfl
theorem g_75 {σ : MS} {i : Int} : (Option.isSome (some 75) = true ∧ ab σ 3 75 i) = (0 ≤ i ∧ i < 200) := gdK (n := 200) rfl
theorem kc_75 (σ : MS) : kd σ 75 = (3, 200) := rfl
theorem g_76 {σ : MS} {i : Int} : (Option.isSome (some 76) = true ∧ ab σ 4 76 i) = (0 ≤ i ∧ i < 16) := gdK (n := 16) rfl
theorem kc_76 (σ : MS) : kd σ 76 = (4, 16) := rfl
theorem g_77 {σ : MS} {i : Int} : (Option.isSome (some 77) = true ∧ ab σ 4 77 i) = (0 ≤ i ∧ i < 40) := gdK (n := 40) rfl
theorem kc_77 (σ : MS) : kd σ 77 = (4, 40) := rfl
theorem g_78 {σ : MS} {i : Int} : (Option.isSome (some 78) = true ∧ ab σ 3 78 i) = (0 ≤ i ∧ i < 4) := gdK (n := 4) rfl
theorem kc_78 (σ : MS) : kd σ 78 = (3, 4) := rfl
theorem g_79 {σ : MS} {i : Int} : (Option.isSome (some 79) = true ∧ ab σ 1 79 i) = (0 ≤ i ∧ i < 2000) := gdK (n := 2000) rfl
theorem kc_79 (σ : MS) : kd σ 79 = (1, 2000) := rfl
theorem kc_80 (σ : MS) : kd σ 80 = (31, 0) := rfl
theorem g_81 {σ : MS} {i : Int} : (Option.isSome (some 81) = true ∧ ab σ 1 81 i) = (0 ≤ i ∧ i < 4000) := gdK (n := 4000) rfl
theorem kc_81 (σ : MS) : kd σ 81 = (1, 4000) := rfl
theorem g_82 {σ : MS} {i : Int} : (Option.isSome (some 82) = true ∧ ab σ 1 82 i) = (0 ≤ i ∧ i < 24000) := gdK (n := 24000) rfl
theorem kc_82 (σ : MS) : kd σ 82 = (1, 24000) := rfl
theorem g_83 {σ : MS} {i : Int} : (Option.isSome (some 83) = true ∧ ab σ 4 83 i) = (0 ≤ i ∧ i < 1600) := gdK (n := 1600) rfl
theorem kc_83 (σ : MS) : kd σ 83 = (4, 1600) := rfl
theorem g_84 {σ : MS} {i : Int} : (Option.isSome (some 84) = true ∧ ab σ 3 84 i) = (0 ≤ i ∧ i < 8) := gdK (n := 8) rfl
theorem kc_84 (σ : MS) : kd σ 84 = (3, 8) := rfl
theorem g_85 {σ : MS} {i : Int} : (Option.isSome (some 85) = true ∧ ab σ 2 85 i) = (0 ≤ i ∧ i < 8) := gdK (n := 8) rfl
theorem kc_85 (σ : MS) : kd σ 85 = (2, 8) := rfl
theorem g_86 {σ : MS} {i : Int} : (Option.isSome (some 86) = true ∧ ab σ 4 86 i) = (0 ≤ i ∧ i < 204) := gdK (n := 204) rfl
theorem kc_86 (σ : MS) : kd σ 86 = (4, 204) := rfl
theorem g_87 {σ : MS} {i : Int} : (Option.isSome (some 87) = true ∧ ab σ 3 87 i) = (0 ≤ i ∧ i < 1400) := gdK (n := 1400) rfl
theorem kc_87 (σ : MS) : kd σ 87 = (3, 1400) := rfl
theorem g_88 {σ : MS} {i : Int} : (Option.isSome (some 88) = true ∧ ab σ 3 88 i) = (0 ≤ i ∧ i < 1400) := gdK (n := 1400) rfl
theorem kc_88 (σ : MS) : kd σ 88 = (3, 1400) := rfl
theorem g_89 {σ : MS} {i : Int} : (Option.isSome (some 89) = true ∧ ab σ 3 89 i) = (0 ≤ i ∧ i < 1400) := gdK (n := 1400) rfl
theorem kc_89 (σ : MS) : kd σ 89 = (3, 1400) := rfl
theorem g_90 {σ : MS} {i : Int} : (Option.isSome (some 90) = true ∧ ab σ 3 90 i) = (0 ≤ i ∧ i < 204) := gdK (n := 204) rfl
theorem kc_90 (σ : MS) : kd σ 90 = (3, 204) := rfl
theorem g_91 {σ : MS} {i : Int} : (Option.isSome (some 91) = true ∧ ab σ 3 91 i) = (0 ≤ i ∧ i < 204) := gdK (n := 204) rfl
theorem kc_91 (σ : MS) : kd σ 91 = (3, 204) := rfl
theorem g_92 {σ : MS} {i : Int} : (Option.isSome (some 92) = true ∧ ab σ 3 92 i) = (0 ≤ i ∧ i < 204) := gdK (n := 204) rfl
theorem kc_92 (σ : MS) : kd σ 92 = (3, 204) := rfl
theorem g_93 {σ : MS} {i : Int} : (Option.isSome (some 93) = true ∧ ab σ 2 93 i) = (0 ≤ i ∧ i < 204) := gdK (n := 204) rfl
theorem kc_93 (σ : MS) : kd σ 93 = (2, 204) := rfl
theorem g_94 {σ : MS} {i : Int} : (Option.isSome (some 94) = true ∧ ab σ 1 94 i) = (0 ≤ i ∧ i < 20) := gdK (n := 20) rfl
theorem kc_94 (σ : MS) : kd σ 94 = (1, 20) := rfl
theorem g_95 {σ : MS} {i : Int} : (Option.isSome (some 95) = true ∧ ab σ 2 95 i) = (0 ≤ i ∧ i < 8) := gdK (n := 8) rfl
theorem kc_95 (σ : MS) : kd σ 95 = (2, 8) := rfl
theorem g_96 {σ : MS} {i : Int} : (Option.isSome (some 96) = true ∧ ab σ 3 96 i) = (0 ≤ i ∧ i < 8) := gdK (n := 8) rfl
theorem kc_96 (σ : MS) : kd σ 96 = (3, 8) := rfl
theorem g_97 {σ : MS} {i : Int} : (Option.isSome (some 97) = true ∧ ab σ 3 97 i) = (0 ≤ i ∧ i < 8) := gdK (n := 8) rfl
theorem kc_97 (σ : MS) : kd σ 97 = (3, 8) := rfl
theorem g_98 {σ : MS} {i : Int} : (Option.isSome (some 98) = true ∧ ab σ 3 98 i) = (0 ≤ i ∧ i < 8) := gdK (n := 8) rfl
theorem kc_98 (σ : MS) : kd σ 98 = (3, 8) := rfl
theorem g_99 {σ : MS} {i : Int} : (Option.isSome (some 99) = true ∧ ab σ 3 99 i) = (0 ≤ i ∧ i < 8) := gdK (n := 8) rfl
theorem kc_99 (σ : MS) : kd σ 99 = (3, 8) := rfl
theorem g_100 {σ : MS} {i : Int} : (Option.isSome (some 100) = true ∧ ab σ 1 100 i) = (0 ≤ i ∧ i < 16384) := gdK (n := 16384) rfl
theorem kc_100 (σ : MS) : kd σ 100 = (1, 16384) := rfl
theorem g_101 {σ : MS} {i : Int} : (Option.isSome (some 101) = true ∧ ab σ 3 101 i) = (0 ≤ i ∧ i < 8) := gdK (n := 8) rfl
theorem kc_101 (σ : MS) : kd σ 101 = (3, 8) := rfl
theorem g_102 {σ : MS} {i : Int} : (Option.isSome (some 102) = true ∧ ab σ 1 102 i) = (0 ≤ i ∧ i < 2048) := gdK (n := 2048) rfl
theorem kc_102 (σ : MS) : kd σ 102 = (1, 2048) := rfl
theorem g_103 {σ : MS} {i : Int} : (Option.isSome (some 103) = true ∧ ab σ 3 103 i) = (0 ≤ i ∧ i < 128) := gdK (n := 128) rfl
theorem kc_103 (σ : MS) : kd σ 103 = (3, 128) := rfl
theorem g_104 {σ : MS} {i : Int} : (Option.isSome (some 104) = true ∧ ab σ 2 104 i) = (0 ≤ i ∧ i < 256) := gdK (n := 256) rfl
theorem kc_104 (σ : MS) : kd σ 104 = (2, 256) := rfl
theorem g_105 {σ : MS} {i : Int} : (Option.isSome (some 105) = true ∧ ab σ 2 105 i) = (0 ≤ i ∧ i < 256) := gdK (n := 256) rfl
theorem kc_105 (σ : MS) : kd σ 105 = (2, 256) := rfl
theorem g_106 {σ : MS} {i : Int} : (Option.isSome (some 106) = true ∧ ab σ 3 106 i) = (0 ≤ i ∧ i < 128) := gdK (n := 128) rfl
theorem kc_106 (σ : MS) : kd σ 106 = (3, 128) := rfl
theorem g_107 {σ : MS} {i : Int} : (Option.isSome (some 107) = true ∧ ab σ 3 107 i) = (0 ≤ i ∧ i < 8) := gdK (n := 8) rfl
theorem kc_107 (σ : MS) : kd σ 107 = (3, 8) := rfl
theorem g_108 {σ : MS} {i : Int} : (Option.isSome (some 108) = true ∧ ab σ 3 108 i) = (0 ≤ i ∧ i < 128) := gdK (n := 128) rfl
theorem kc_108 (σ : MS) : kd σ 108 = (3, 128) := rfl
theorem g_109 {σ : MS} {i : Int} : (Option.isSome (some 109) = true ∧ ab σ 1 109 i) = (0 ≤ i ∧ i < 8192) := gdK (n := 8192) rfl
theorem kc_109 (σ : MS) : kd σ 109 = (1, 8192) := rfl
theorem g_110 {σ : MS} {i : Int} : (Option.isSome (some 110) = true ∧ ab σ 1 110 i) = (0 ≤ i ∧ i < 16) := gdK (n := 16) rfl
theorem kc_110 (σ : MS) : kd σ 110 = (1, 16) := rfl
theorem g_111 {σ : MS} {i : Int} : (Option.isSome (some 111) = true ∧ ab σ 1 111 i) = (0 ≤ i ∧ i < 64) := gdK (n := 64) rfl
theorem kc_111 (σ : MS) : kd σ 111 = (1, 64) := rfl
theorem g_112 {σ : MS} {i : Int} : (Option.isSome (some 112) = true ∧ ab σ 4 112 i) = (0 ≤ i ∧ i < 32664) := gdK (n := 32664) rfl
theorem kc_112 (σ : MS) : kd σ 112 = (4, 32664) := rfl
theorem g_113 {σ : MS} {i : Int} : (Option.isSome (some 113) = true ∧ ab σ 4 113 i) = (0 ≤ i ∧ i < 32664) := gdK (n := 32664) rfl
theorem kc_113 (σ : MS) : kd σ 113 = (4, 32664) := rfl
theorem g_114 {σ : MS} {i : Int} : (Option.isSome (some 114) = true ∧ ab σ 4 114 i) = (0 ≤ i ∧ i < 32664) := gdK (n := 32664) rfl
theorem kc_114 (σ : MS) : kd σ 114 = (4, 32664) := rfl
theorem g_115 {σ : MS} {i : Int} : (Option.isSome (some 115) = true ∧ ab σ 4 115 i) = (0 ≤ i ∧ i < 32664) := gdK (n := 32664) rfl
theorem kc_115 (σ : MS) : kd σ 115 = (4, 32664) := rfl
theorem g_116 {σ : MS} {i : Int} : (Option.isSome (some 116) = true ∧ ab σ 4 116 i) = (0 ≤ i ∧ i < 32664) := gdK (n := 32664) rfl
theorem kc_116 (σ : MS) : kd σ 116 = (4, 32664) := rfl
theorem g_117 {σ : MS} {i : Int} : (Option.isSome (some 117) = true ∧ ab σ 4 117 i) = (0 ≤ i ∧ i < 32664) := gdK (n := 32664) rfl
theorem kc_117 (σ : MS) : kd σ 117 = (4, 32664) := rfl
theorem g_118 {σ : MS} {i : Int} : (Option.isSome (some 118) = true ∧ ab σ 1 118 i) = (0 ≤ i ∧ i < 32664) := gdK (n := 32664) rfl
theorem kc_118 (σ : MS) : kd σ 118 = (1, 32664) := rfl
theorem g_119 {σ : MS} {i : Int} : (Option.isSome (some 119) = true ∧ ab σ 3 119 i) = (0 ≤ i ∧ i < 32664) := gdK (n := 32664) rfl
theorem kc_119 (σ : MS) : kd σ 119 = (3, 32664) := rfl
theorem g_120 {σ : MS} {i : Int} : (Option.isSome (some 120) = true ∧ ab σ 3 120 i) = (0 ≤ i ∧ i < 32664) := gdK (n := 32664) rfl
theorem kc_120 (σ : MS) : kd σ 120 = (3, 32664) := rfl
theorem g_121 {σ : MS} {i : Int} : (Option.isSome (some 121) = true ∧ ab σ 3 121 i) = (0 ≤ i ∧ i < 32664) := gdK (n := 32664) rfl
theorem kc_121 (σ : MS) : kd σ 121 = (3, 32664) := rfl
theorem g_122 {σ : MS} {i : Int} : (Option.isSome (some 122) = true ∧ ab σ 3 122 i) = (0 ≤ i ∧ i < 32664) := gdK (n := 32664) rfl
theorem kc_122 (σ : MS) : kd σ 122 = (3, 32664) := rfl
theorem g_123 {σ : MS} {i : Int} : (Option.isSome (some 123) = true ∧ ab σ 3 123 i) = (0 ≤ i ∧ i < 314) := gdK (n := 314) rfl
theorem kc_123 (σ : MS) : kd σ 123 = (3, 314) := rfl
theorem g_124 {σ : MS} {i : Int} : (Option.isSome (some 124) = true ∧ ab σ 3 124 i) = (0 ≤ i ∧ i < 1256) := gdK (n := 1256) rfl
theorem kc_124 (σ : MS) : kd σ 124 = (3, 1256) := rfl
theorem g_125 {σ : MS} {i : Int} : (Option.isSome (some 125) = true ∧ ab σ 3 125 i) = (0 ≤ i ∧ i < 314) := gdK (n := 314) rfl
theorem kc_125 (σ : MS) : kd σ 125 = (3, 314) := rfl
theorem g_126 {σ : MS} {i : Int} : (Option.isSome (some 126) = true ∧ ab σ 3 126 i) = (0 ≤ i ∧ i < 20096) := gdK (n := 20096) rfl
theorem kc_126 (σ : MS) : kd σ 126 = (3, 20096) := rfl
theorem g_127 {σ : MS} {i : Int} : (Option.isSome (some 127) = true ∧ ab σ 3 127 i) = (0 ≤ i ∧ i < 252) := gdK (n := 252) rfl
theorem kc_127 (σ : MS) : kd σ 127 = (3, 252) := rfl
theorem g_128 {σ : MS} {i : Int} : (Option.isSome (some 128) = true ∧ ab σ 3 128 i) = (0 ≤ i ∧ i < 252) := gdK (n := 252) rfl
theorem kc_128 (σ : MS) : kd σ 128 = (3, 252) := rfl
theorem g_129 {σ : MS} {i : Int} : (Option.isSome (some 129) = true ∧ ab σ 3 129 i) = (0 ≤ i ∧ i < 252) := gdK (n := 252) rfl
theorem kc_129 (σ : MS) : kd σ 129 = (3, 252) := rfl
theorem g_130 {σ : MS} {i : Int} : (Option.isSome (some 130) = true ∧ ab σ 3 130 i) = (0 ≤ i ∧ i < 252) := gdK (n := 252) rfl
theorem kc_130 (σ : MS) : kd σ 130 = (3, 252) := rfl
theorem g_131 {σ : MS} {i : Int} : (Option.isSome (some 131) = true ∧ ab σ 3 131 i) = (0 ≤ i ∧ i < 252) := gdK (n := 252) rfl
theorem kc_131 (σ : MS) : kd σ 131 = (3, 252) := rfl
theorem g_132 {σ : MS} {i : Int} : (Option.isSome (some 132) = true ∧ ab σ 3 132 i) = (0 ≤ i ∧ i < 60) := gdK (n := 60) rfl
theorem kc_132 (σ : MS) : kd σ 132 = (3, 60) := rfl
theorem g_133 {σ : MS} {i : Int} : (Option.isSome (some 133) = true ∧ ab σ 3 133 i) = (0 ≤ i ∧ i < 60) := gdK (n := 60) rfl
theorem kc_133 (σ : MS) : kd σ 133 = (3, 60) := rfl
theorem g_134 {σ : MS} {i : Int} : (Option.isSome (some 134) = true ∧ ab σ 3 134 i) = (0 ≤ i ∧ i < 60) := gdK (n := 60) rfl
theorem kc_134 (σ : MS) : kd σ 134 = (3, 60) := rfl
theorem g_135 {σ : MS} {i : Int} : (Option.isSome (some 135) = true ∧ ab σ 2 135 i) = (0 ≤ i ∧ i < 201) := gdK (n := 201) rfl
theorem kc_135 (σ : MS) : kd σ 135 = (2, 201) := rfl
theorem g_136 {σ : MS} {i : Int} : (Option.isSome (some 136) = true ∧ ab σ 2 136 i) = (0 ≤ i ∧ i < 201) := gdK (n := 201) rfl
theorem kc_136 (σ : MS) : kd σ 136 = (2, 201) := rfl
theorem g_137 {σ : MS} {i : Int} : (Option.isSome (some 137) = true ∧ ab σ 2 137 i) = (0 ≤ i ∧ i < 201) := gdK (n := 201) rfl
theorem kc_137 (σ : MS) : kd σ 137 = (2, 201) := rfl
theorem g_138 {σ : MS} {i : Int} : (Option.isSome (some 138) = true ∧ ab σ 3 138 i) = (0 ≤ i ∧ i < 6) := gdK (n := 6) rfl
theorem kc_138 (σ : MS) : kd σ 138 = (3, 6) := rfl
theorem g_139 {σ : MS} {i : Int} : (Option.isSome (some 139) = true ∧ ab σ 2 139 i) = (0 ≤ i ∧ i < 200) := gdK (n := 200) rfl
theorem kc_139 (σ : MS) : kd σ 139 = (2, 200) := rfl
theorem g_140 {σ : MS} {i : Int} : (Option.isSome (some 140) = true ∧ ab σ 4 140 i) = (0 ≤ i ∧ i < 12000) := gdK (n := 12000) rfl
theorem kc_140 (σ : MS) : kd σ 140 = (4, 12000) := rfl
theorem g_141 {σ : MS} {i : Int} : (Option.isSome (some 141) = true ∧ ab σ 3 141 i) = (0 ≤ i ∧ i < 8000) := gdK (n := 8000) rfl
theorem kc_141 (σ : MS) : kd σ 141 = (3, 8000) := rfl
theorem g_142 {σ : MS} {i : Int} : (Option.isSome (some 142) = true ∧ ab σ 3 142 i) = (0 ≤ i ∧ i < 600) := gdK (n := 600) rfl
theorem kc_142 (σ : MS) : kd σ 142 = (3, 600) := rfl
theorem g_143 {σ : MS} {i : Int} : (Option.isSome (some 143) = true ∧ ab σ 3 143 i) = (0 ≤ i ∧ i < 600) := gdK (n := 600) rfl
theorem kc_143 (σ : MS) : kd σ 143 = (3, 600) := rfl
theorem g_144 {σ : MS} {i : Int} : (Option.isSome (some 144) = true ∧ ab σ 1 144 i) = (0 ≤ i ∧ i < 256) := gdK (n := 256) rfl
theorem kc_144 (σ : MS) : kd σ 144 = (1, 256) := rfl
theorem g_145 {σ : MS} {i : Int} : (Option.isSome (some 145) = true ∧ ab σ 1 145 i) = (0 ≤ i ∧ i < 2000) := gdK (n := 2000) rfl
theorem kc_145 (σ : MS) : kd σ 145 = (1, 2000) := rfl
theorem g_146 {σ : MS} {i : Int} : (Option.isSome (some 146) = true ∧ ab σ 4 146 i) = (0 ≤ i ∧ i < 44) := gdK (n := 44) rfl
theorem kc_146 (σ : MS) : kd σ 146 = (4, 44) := rfl
theorem g_147 {σ : MS} {i : Int} : (Option.isSome (some 147) = true ∧ ab σ 1 147 i) = (0 ≤ i ∧ i < 512) := gdK (n := 512) rfl
theorem kc_147 (σ : MS) : kd σ 147 = (1, 512) := rfl
theorem g_148 {σ : MS} {i : Int} : (Option.isSome (some 148) = true ∧ ab σ 3 148 i) = (0 ≤ i ∧ i < 4) := gdK (n := 4) rfl
theorem kc_148 (σ : MS) : kd σ 148 = (3, 4) := rfl
theorem g_149 {σ : MS} {i : Int} : (Option.isSome (some 149) = true ∧ ab σ 1 149 i) = (0 ≤ i ∧ i < 4096) := gdK (n := 4096) rfl
theorem kc_149 (σ : MS) : kd σ 149 = (1, 4096) := rfl
theorem g_150 {σ : MS} {i : Int} : (Option.isSome (some 150) = true ∧ ab σ 3 150 i) = (0 ≤ i ∧ i < 64) := gdK (n := 64) rfl
theorem kc_150 (σ : MS) : kd σ 150 = (3, 64) := rfl
theorem g_151 {σ : MS} {i : Int} : (Option.isSome (some 151) = true ∧ ab σ 3 151 i) = (0 ≤ i ∧ i < 64) := gdK (n := 64) rfl
theorem kc_151 (σ : MS) : kd σ 151 = (3, 64) := rfl
theorem g_152 {σ : MS} {i : Int} : (Option.isSome (some 152) = true ∧ ab σ 2 152 i) = (0 ≤ i ∧ i < 64) := gdK (n := 64) rfl
theorem kc_152 (σ : MS) : kd σ 152 = (2, 64) := rfl
