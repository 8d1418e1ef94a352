/-! ===== more steps told apart; stores only grow ===== -/
section INV2
variable {n : Nat} {tg : Nat → List Ins} {c : Cf} {r : Rs} {rr : List Ins} {ls : List (Option MV)} {st : List MV} {σ : MS}
theorem iInc {j : Nat} {d : Int} (hr : run (n + 1) tg c = some r) (h : mstep tg c = (match ls[j]? with
      | some (some (.inl x)) => aNx rr (l1 ls j (mI (w32 (x + d)))) st σ
      | _ => none)) : ∃ x, ls[j]? = some (some (mI x)) ∧ run n tg (rr, l1 ls j (mI (w32 (x + d))), st, σ) = some r := by
  split at h
  · rename_i x hx
    exact ⟨x, hx, run_nx hr h⟩
  · exact (run_no hr h).elim
theorem iLdc {k a : Nat} {t : List (Int × Nat)} (hr : run (n + 1) tg c = some r) (h : mstep tg c = (match t with
      | (v, _) :: _ => if k = 0 then aNx rr ls (mI v :: st) σ else aNx rr ls (mR (some (strK + a)) :: st) σ
      | [] => none)) : ∃ v b t', t = (v, b) :: t' ∧ ((k = 0 ∧ run n tg (rr, ls, mI v :: st, σ) = some r) ∨ (k ≠ 0 ∧ run n tg (rr, ls, mR (some (strK + a)) :: st, σ) = some r)) := by
  split at h
  · split at h
    · rename_i h0
      exact ⟨_, _, _, rfl, Or.inl ⟨h0, run_nx hr h⟩⟩
    · rename_i h0
      exact ⟨_, _, _, rfl, Or.inr ⟨h0, run_nx hr h⟩⟩
  · exact (run_no hr h).elim
theorem iLd2 {t : List (Int × Nat)} (hr : run (n + 1) tg c = some r) (h : mstep tg c = (match t with
      | (v, _) :: _ => aNx rr ls (mL (iL v) :: st) σ
      | [] => none)) : ∃ v b t', t = (v, b) :: t' ∧ run n tg (rr, ls, mL (iL v) :: st, σ) = some r := by
  split at h
  · exact ⟨_, _, _, rfl, run_nx hr h⟩
  · exact (run_no hr h).elim
theorem iLng (hr : run (n + 1) tg c = some r) (h : mstep tg c = (match st with
      | .inr (.inl x) :: s => aNx rr ls (mL (-x) :: s) σ
      | _ => none)) : ∃ x s, st = mL x :: s ∧ run n tg (rr, ls, mL (-x) :: s, σ) = some r := by
  split at h
  · exact ⟨_, _, rfl, run_nx hr h⟩
  · exact (run_no hr h).elim
theorem iI2l (hr : run (n + 1) tg c = some r) (h : mstep tg c = (match st with
      | .inl x :: s => aNx rr ls (mL (iL x) :: s) σ
      | _ => none)) : ∃ x s, st = mI x :: s ∧ run n tg (rr, ls, mL (iL x) :: s, σ) = some r := by
  split at h
  · exact ⟨_, _, rfl, run_nx hr h⟩
  · exact (run_no hr h).elim
theorem iL2i (hr : run (n + 1) tg c = some r) (h : mstep tg c = (match st with
      | .inr (.inl x) :: s => aNx rr ls (mI (lI x) :: s) σ
      | _ => none)) : ∃ x s, st = mL x :: s ∧ run n tg (rr, ls, mI (lI x) :: s, σ) = some r := by
  split at h
  · exact ⟨_, _, rfl, run_nx hr h⟩
  · exact (run_no hr h).elim
theorem iDup (hr : run (n + 1) tg c = some r) (h : mstep tg c = (match st with
      | .inl x :: s => aNx rr ls (mI x :: mI x :: s) σ
      | .inr (.inr x) :: s => aNx rr ls (mR x :: mR x :: s) σ
      | _ => none)) : ∃ v s, st = v :: s ∧ (∀ b, v ≠ .inr (.inl b)) ∧ run n tg (rr, ls, v :: v :: s, σ) = some r := by
  split at h
  · exact ⟨_, _, rfl, fun b => by simp, run_nx hr h⟩
  · exact ⟨_, _, rfl, fun b => by simp, run_nx hr h⟩
  · exact (run_no hr h).elim
theorem iDup2 (hr : run (n + 1) tg c = some r) (h : mstep tg c = (match st with
      | .inr (.inl x) :: s => aNx rr ls (mL x :: mL x :: s) σ
      | .inl y :: .inr (.inr x) :: s => aNx rr ls (mI y :: mR x :: mI y :: mR x :: s) σ
      | _ => none)) : (∃ x s, st = mL x :: s ∧ run n tg (rr, ls, mL x :: mL x :: s, σ) = some r) ∨ (∃ y x s, st = mI y :: mR x :: s ∧ run n tg (rr, ls, mI y :: mR x :: mI y :: mR x :: s, σ) = some r) := by
  split at h
  · exact Or.inl ⟨_, _, rfl, run_nx hr h⟩
  · exact Or.inr ⟨_, _, _, rfl, run_nx hr h⟩
  · exact (run_no hr h).elim
theorem iPop (hr : run (n + 1) tg c = some r) (h : mstep tg c = (match st with
      | .inl _ :: s => aNx rr ls s σ
      | .inr (.inr _) :: s => aNx rr ls s σ
      | _ => none)) : ∃ v s, st = v :: s ∧ (∀ b, v ≠ .inr (.inl b)) ∧ run n tg (rr, ls, s, σ) = some r := by
  split at h
  · exact ⟨_, _, rfl, fun b => by simp, run_nx hr h⟩
  · exact ⟨_, _, rfl, fun b => by simp, run_nx hr h⟩
  · exact (run_no hr h).elim
theorem iPop2 (hr : run (n + 1) tg c = some r) (h : mstep tg c = (match st with
      | .inr (.inl _) :: s => aNx rr ls s σ
      | _ => none)) : ∃ v s, st = mL v :: s ∧ run n tg (rr, ls, s, σ) = some r := by
  split at h
  · exact ⟨_, _, rfl, run_nx hr h⟩
  · exact (run_no hr h).elim
theorem iDx1 (hr : run (n + 1) tg c = some r) (h : mstep tg c = (match st with
      | .inl y :: .inr (.inr x) :: s => aNx rr ls (mI y :: mR x :: mI y :: s) σ
      | _ => none)) : ∃ y x s, st = mI y :: mR x :: s ∧ run n tg (rr, ls, mI y :: mR x :: mI y :: s, σ) = some r := by
  split at h
  · exact ⟨_, _, _, rfl, run_nx hr h⟩
  · exact (run_no hr h).elim
theorem iD2x (hr : run (n + 1) tg c = some r) (h : mstep tg c = (match st with
      | .inr (.inl y) :: .inr (.inr x) :: s => aNx rr ls (mL y :: mR x :: mL y :: s) σ
      | _ => none)) : ∃ y x s, st = mL y :: mR x :: s ∧ run n tg (rr, ls, mL y :: mR x :: mL y :: s, σ) = some r := by
  split at h
  · exact ⟨_, _, _, rfl, run_nx hr h⟩
  · exact (run_no hr h).elim
/-- a condition of ints, as a statement -/
def cdI (cc : Jvm.ClassFile.Cond) (x y : Int) : Prop := match cc with
  | .eq => x = y
  | .ne => ¬ x = y
  | .lt => x < y
  | .ge => y ≤ x
  | .gt => y < x
  | .le => x ≤ y
def cL (cc : Jvm.ClassFile.Cond) (x y : BitVec 64) : Prop := match cc with
  | .eq => x = y
  | .ne => ¬ x = y
  | .lt => x.toInt < y.toInt
  | .ge => y.toInt ≤ x.toInt
  | .gt => y.toInt < x.toInt
  | .le => x.toInt ≤ y.toInt
theorem iIf0 {cc : Jvm.ClassFile.Cond} {x y : Int} {t f : Cf} (hr : run (n + 1) tg c = some r) (h : mstep tg c = mIf cc x y t f) : (cdI cc x y ∧ run n tg t = some r) ∨ (¬ cdI cc x y ∧ run n tg f = some r) := by
  cases cc <;> exact run_if hr h
theorem iIfL {cc : Jvm.ClassFile.Cond} {x y : BitVec 64} {t f : Cf} (hr : run (n + 1) tg c = some r) (h : mstep tg c = mIfL cc x y t f) : (cL cc x y ∧ run n tg t = some r) ∨ (¬ cL cc x y ∧ run n tg f = some r) := by
  cases cc <;> exact run_if hr h
theorem iIf1 {cc : Jvm.ClassFile.Cond} {a : Nat} (hr : run (n + 1) tg c = some r) (h : mstep tg c = (match st with
      | .inl x :: s => mIf cc x 0 (tg a, ls, s, σ) (rr, ls, s, σ)
      | _ => none)) : ∃ x s, st = mI x :: s ∧ ((cdI cc x 0 ∧ run n tg (tg a, ls, s, σ) = some r) ∨ (¬ cdI cc x 0 ∧ run n tg (rr, ls, s, σ) = some r)) := by
  split at h
  · exact ⟨_, _, rfl, iIf0 hr h⟩
  · exact (run_no hr h).elim
theorem iIf2 {cc : Jvm.ClassFile.Cond} {a : Nat} (hr : run (n + 1) tg c = some r) (h : mstep tg c = (match st with
      | .inl y :: .inl x :: s => mIf cc x y (tg a, ls, s, σ) (rr, ls, s, σ)
      | _ => none)) : ∃ y x s, st = mI y :: mI x :: s ∧ ((cdI cc x y ∧ run n tg (tg a, ls, s, σ) = some r) ∨ (¬ cdI cc x y ∧ run n tg (rr, ls, s, σ) = some r)) := by
  split at h
  · exact ⟨_, _, _, rfl, iIf0 hr h⟩
  · exact (run_no hr h).elim
theorem iLcm (hr : run (n + 1) tg c = some r) (h : mstep tg c = (match rr, st with
      | (.ifCond cc _, _, a2, _, _, _) :: r2, .inr (.inl y) :: .inr (.inl x) :: s => mIfL cc x y (tg a2, ls, s, σ) (r2, ls, s, σ)
      | _, _ => none)) : ∃ cc o p2 a2 b2 k2 t2 r2 y x s, rr = (.ifCond cc o, p2, a2, b2, k2, t2) :: r2 ∧ st = mL y :: mL x :: s ∧ ((cL cc x y ∧ run n tg (tg a2, ls, s, σ) = some r) ∨ (¬ cL cc x y ∧ run n tg (r2, ls, s, σ) = some r)) := by
  split at h
  · exact ⟨_, _, _, _, _, _, _, _, _, _, _, rfl, rfl, iIfL hr h⟩
  · exact (run_no hr h).elim
theorem iAcm {cc : ACond} {a b k pc : Nat} {o : Int} {t : List (Int × Nat)} (hr : run (n + 1) tg c = some r) (h : mstep tg c = (match st with
      | .inr (.inr y) :: .inr (.inr x) :: s => (match k with
        | 0 => aBr (ak σ 2 x ∧ ak σ 2 y) inferInstance ((.if_acmp cc o, pc, a, b, 1, t) :: rr, ls, st, σ) (nCf σ)
        | _ => (match cc with
          | .eq => aBr (x = y) inferInstance (tg a, ls, s, σ) (rr, ls, s, σ)
          | .ne => aBr (¬ x = y) inferInstance (tg a, ls, s, σ) (rr, ls, s, σ)))
      | _ => none)) (hk : k = 0) : ∃ y x s, st = mR y :: mR x :: s ∧ ak σ 2 x ∧ ak σ 2 y ∧ run n tg ((.if_acmp cc o, pc, a, b, 1, t) :: rr, ls, st, σ) = some r := by
  subst hk
  split at h
  · obtain ⟨h1, h2⟩ := run_gd hr h
    exact ⟨_, _, _, rfl, h1.1, h1.2, h2⟩
  · exact (run_no hr h).elim
theorem iAcm1 {cc : ACond} {a b pc : Nat} {o : Int} {t : List (Int × Nat)} {y x : Option Nat} {s : List MV} : ∀ {n : Nat}, run n tg ((.if_acmp cc o, pc, a, b, 1, t) :: rr, ls, mR y :: mR x :: s, σ) = some r → ((cc = .eq ∧ ((x = y ∧ run n tg (tg a, ls, s, σ) = some r) ∨ (¬ x = y ∧ run n tg (rr, ls, s, σ) = some r))) ∨ (cc = .ne ∧ ((¬ x = y ∧ run n tg (tg a, ls, s, σ) = some r) ∨ (¬ ¬ x = y ∧ run n tg (rr, ls, s, σ) = some r))))
  | 0, h => by cases h
  | n + 1, h => by
    cases cc
    · exact Or.inl ⟨rfl, (run_if h rfl).imp (fun q => ⟨q.1, run_mono _ _ _ _ q.2⟩) (fun q => ⟨q.1, run_mono _ _ _ _ q.2⟩)⟩
    · exact Or.inr ⟨rfl, (run_if h rfl).imp (fun q => ⟨q.1, run_mono _ _ _ _ q.2⟩) (fun q => ⟨q.1, run_mono _ _ _ _ q.2⟩)⟩
theorem iNul {b : Bool} {t f : List Ins} (hr : run (n + 1) tg c = some r) (h : mstep tg c = mNull b st ls t f σ) : ∃ x s, st = mR x :: s ∧ ((x.isSome = b ∧ run n tg (t, ls, s, σ) = some r) ∨ (¬ x.isSome = b ∧ run n tg (f, ls, s, σ) = some r)) := by
  unfold mNull at h
  split at h
  · exact ⟨_, _, rfl, run_if hr h⟩
  · exact (run_no hr h).elim
theorem iSwi {a : Nat} {t : List (Int × Nat)} (hr : run (n + 1) tg c = some r) (h : mstep tg c = (match st with
      | .inl x :: s => aSw x (t.map fun q => (q.1, (tg q.2, ls, s, σ))) (tg a, ls, s, σ)
      | _ => none)) : ∃ x s, st = mI x :: s ∧ run n tg (tg (rSw x t a), ls, s, σ) = some r := by
  split at h
  · rename_i x s
    refine ⟨x, s, rfl, ?_⟩
    have := run_sw hr h
    rwa [rSw_map (fun b => ((tg b, ls, s, σ) : Cf)) x a t] at this
  · exact (run_no hr h).elim
theorem iLen {a : Nat} (hr : run (n + 1) tg c = some r) (h : mstep tg c = (match st with
      | .inr (.inr x) :: s => aBr (x.isSome = true ∧ (kd σ (x.getD 0)).1 = a) inferInstance (rr, ls, mI ((kd σ (x.getD 0)).2 : Int) :: s, σ) (nCf σ)
      | _ => none)) : ∃ k s, st = mR (some k) :: s ∧ (kd σ k).1 = a ∧ run n tg (rr, ls, mI ((kd σ k).2 : Int) :: s, σ) = some r := by
  split at h
  · obtain ⟨⟨h1, h2⟩, h3⟩ := run_gd hr h
    obtain ⟨k, rfl⟩ := Option.isSome_iff_exists.mp h1
    exact ⟨k, _, rfl, h2, h3⟩
  · exact (run_no hr h).elim
theorem iNwa (hr : run (n + 1) tg c = some r) (h : mstep tg c = (match st with
      | .inl n :: s => if n = 4800 then aNx rr ls (mR (some (nC σ)) :: s) (alI σ 4800) else none
      | _ => none)) : ∃ s, st = mI 4800 :: s ∧ run n tg (rr, ls, mR (some (nC σ)) :: s, alI σ 4800) = some r := by
  split at h
  · split at h
    · rename_i h0
      subst h0
      exact ⟨_, rfl, run_nx hr h⟩
    · exact (run_no hr h).elim
  · exact (run_no hr h).elim
theorem iNew {a : Nat} (hr : run (n + 1) tg c = some r) (h : mstep tg c = (match rr with
      | (.dup, _) :: (.invokespecial _, _) :: r2 => if a = 8 ∧ stW st ≤ 7 then aNx r2 ls (mR (some (nC σ)) :: st) (alS σ) else none
      | _ => none)) : ∃ q1 j q2 r2, rr = (.dup, q1) :: (.invokespecial j, q2) :: r2 ∧ a = 8 ∧ stW st ≤ 7 ∧ run n tg (r2, ls, mR (some (nC σ)) :: st, alS σ) = some r := by
  split at h
  · split at h
    · rename_i h0
      exact ⟨_, _, _, _, rfl, h0.1, h0.2, run_nx hr h⟩
    · exact (run_no hr h).elim
  · exact (run_no hr h).elim
theorem iRtI {k : Nat} (hr : run (n + 1) tg c = some r) (h : mstep tg c = mRetI k st σ) : ∃ x, st = [mI x] ∧ (k = 0 ∨ (k = 1 ∧ bl x) ∨ (k = 2 ∧ 0 ≤ x ∧ x < 65536) ∨ (k ≠ 0 ∧ k ≠ 1 ∧ k ≠ 2 ∧ -128 ≤ x ∧ x < 128)) ∧ r = (some (mI x), σ) := by
  unfold mRetI at h
  split at h
  · rename_i x
    split at h
    · obtain ⟨h1, h2⟩ := run_rt hr h
      exact ⟨x, rfl, Or.inl rfl, h2.symm⟩
    · obtain ⟨h1, h2⟩ := run_rt hr h
      exact ⟨x, rfl, Or.inr (Or.inl ⟨rfl, h1⟩), h2.symm⟩
    · obtain ⟨h1, h2⟩ := run_rt hr h
      exact ⟨x, rfl, Or.inr (Or.inr (Or.inl ⟨rfl, h1⟩)), h2.symm⟩
    · rename_i k0 k1 k2
      obtain ⟨h1, h2⟩ := run_rt hr h
      exact ⟨x, rfl, Or.inr (Or.inr (Or.inr ⟨k0, k1, k2, h1⟩)), h2.symm⟩
  · exact (run_no hr h).elim
theorem iRtL (hr : run (n + 1) tg c = some r) (h : mstep tg c = (match st with
      | [.inr (.inl x)] => aRt True inferInstance (some (mL x)) σ
      | _ => none)) : ∃ x, st = [mL x] ∧ r = (some (mL x), σ) := by
  split at h
  · exact ⟨_, rfl, (run_rt hr h).2.symm⟩
  · exact (run_no hr h).elim
theorem iRtR (hr : run (n + 1) tg c = some r) (h : mstep tg c = (match st with
      | [.inr (.inr x)] => aRt True inferInstance (some (mR x)) σ
      | _ => none)) : ∃ x, st = [mR x] ∧ r = (some (mR x), σ) := by
  split at h
  · exact ⟨_, rfl, (run_rt hr h).2.symm⟩
  · exact (run_no hr h).elim
theorem iRtV (hr : run (n + 1) tg c = some r) (h : mstep tg c = (match st with
      | [] => aRt True inferInstance none σ
      | _ => none)) : st = [] ∧ r = (none, σ) := by
  split at h
  · exact ⟨rfl, (run_rt hr h).2.symm⟩
  · exact (run_no hr h).elim
theorem iCpy {ty : Nat} (hr : run (n + 1) tg c = some r) (h : mstep tg c = if stW st ≤ 13 then mCpy ty rr ls st σ else none) : ∃ k dp y sp x s, st = mI k :: mI dp :: mR (some y) :: mI sp :: mR (some x) :: s ∧ stW s ≤ 8 ∧ ac σ ty x y sp dp k ∧ run n tg (rr, ls, s, if ty = 4 then cpL σ x sp y dp k else cpI σ x sp y dp k) = some r := by
  split at h
  · rename_i hw
    unfold mCpy at h
    split at h
    · obtain ⟨⟨⟨h1, h2⟩, h4⟩, h3⟩ := run_gd hr h
      obtain ⟨x, rfl⟩ := Option.isSome_iff_exists.mp h1
      obtain ⟨y, rfl⟩ := Option.isSome_iff_exists.mp h2
      exact ⟨_, _, _, _, _, _, rfl, by simp only [stW] at hw; omega, h4, h3⟩
    · exact (run_no hr h).elim
  · exact (run_no hr h).elim
theorem iChx (hr : run (n + 1) tg c = some r) (h : mstep tg c = mChx rr ls st σ) : ∃ y x s, st = mI y :: mI x :: s ∧ (0 ≤ x ∧ x < y) ∧ stW s ≤ 8 ∧ run n tg (rr, ls, s, σ) = some r := by
  unfold mChx at h
  split at h
  · obtain ⟨⟨h1, h2⟩, h3⟩ := run_gd hr h
    exact ⟨_, _, _, rfl, h1, h2, h3⟩
  · exact (run_no hr h).elim
end INV2
def mo (σ σ2 : MS) : Prop := nC σ ≤ nC σ2 ∧ tS σ ≤ tS σ2 ∧ σ2.2.2.2.2.2 = σ.2.2.2.2.2
theorem mo_rf (σ : MS) : mo σ σ := ⟨Nat.le_refl _, Nat.le_refl _, rfl⟩
def actP (σ : MS) : Act → Prop
  | none => True
  | some (.inl c) => mo σ c.2.2.2
  | some (.inr (.inl (_, x, y))) => mo σ x.2.2.2 ∧ mo σ y.2.2.2
  | some (.inr (.inr (.inl (_, q)))) => mo σ q.2
  | some (.inr (.inr (.inr (.inl (_, _, _, σ2, k))))) => mo σ σ2 ∧ ∀ q, mo q.2 (k q).2.2.2
  | some (.inr (.inr (.inr (.inr (_, l, d))))) => (∀ q ∈ l, mo σ q.2.2.2.2) ∧ mo σ d.2.2.2
theorem actP_nx (r : List Ins) (ls : List (Option MV)) (st : List MV) (σ σ2 : MS) (h : mo σ σ2) : actP σ (aNx r ls st σ2) := h
theorem actP_br (p : Prop) (d : Decidable p) (x y : Cf) (σ : MS) (hx : mo σ x.2.2.2) (hy : mo σ y.2.2.2) : actP σ (aBr p d x y) := ⟨hx, hy⟩
theorem mo_cp (σ : MS) (ty k0 : Nat) (sp : Int) (k1 : Nat) (dp n : Int) : mo σ (if ty = 4 then cpL σ k0 sp k1 dp n else cpI σ k0 sp k1 dp n) := by split <;> exact mo_rf _
theorem mstep_mo (tg : Nat → List Ins) (c : Cf) : actP c.2.2.2 (mstep tg c) := by
  obtain ⟨sfx, ls, st, σ⟩ := c
  cases sfx with
  | nil => exact True.intro
  | cons x rr =>
    obtain ⟨i, pc, a, b, k, t⟩ := x
    have nxr : ∀ (r : List Ins) (ls : List (Option MV)) (st : List MV), actP σ (aNx r ls st σ) := fun r ls st => mo_rf _
    cases i <;> try exact True.intro
    all_goals simp only [mstep, mLdI, mLdL, mLdR, mStI, mStL, mStR, mBI, mBD, mBL, mBE, mBS, mUI, mIf, mIfL, mALd, mASt, mAStL, mAStR, mGet, mPut, mCpy, mChx, mCal, mRetI, mNull]
    all_goals repeat' split
    all_goals first
      | exact True.intro
      | exact mo_rf _
      | exact ⟨mo_rf _, mo_rf _⟩
      | exact ⟨mo_rf _, fun q => mo_rf _⟩
      | exact ⟨mo_cp _ _ _ _ _ _ _, mo_rf _⟩
      | (refine ⟨?_, mo_rf _⟩; intro q hq; obtain ⟨x, -, rfl⟩ := List.mem_map.mp hq; exact mo_rf _)
      | exact ⟨Nat.le_add_right _ _, Nat.le_add_right _ _, rfl⟩
theorem run_mo : ∀ (n : Nat) (tg : Nat → List Ins) (c : Cf) (r : Rs), run n tg c = some r → mo c.2.2.2 r.2 := by
  intro n
  induction n with
  | zero => intro tg c r h; cases h
  | succ n ih =>
    intro tg c r h
    have ha := mstep_mo tg c
    rw [run] at h
    have tr : ∀ {x y z : MS}, mo x y → mo y z → mo x z := fun a b => ⟨Nat.le_trans a.1 b.1, Nat.le_trans a.2.1 b.2.1, b.2.2.trans a.2.2⟩
    split at h
    · cases h
    · rename_i c' hm
      rw [hm] at ha
      exact tr ha (ih _ _ _ h)
    · rename_i p x y hm
      rw [hm] at ha
      by_cases hp : p.1
      · rw [if_pos hp] at h; exact tr ha.1 (ih _ _ _ h)
      · rw [if_neg hp] at h; exact tr ha.2 (ih _ _ _ h)
    · rename_i p q hm
      rw [hm] at ha
      by_cases hp : p.1
      · rw [if_pos hp] at h; cases h; exact ha
      · rw [if_neg hp] at h; cases h
    · rename_i p m as σ k hm
      rw [hm] at ha
      by_cases hp : p.1
      · rw [if_pos hp] at h
        obtain ⟨q, h1, h2⟩ := Option.bind_eq_some_iff.mp h
        have h3 := ih _ _ _ h1
        have e : (enC m as σ).2.2.2 = σ := by unfold enC; split <;> rfl
        rw [e] at h3
        exact tr ha.1 (tr h3 (tr (ha.2 q) (ih _ _ _ h2)))
      · rw [if_neg hp] at h; cases h
    · rename_i x l d hm
      rw [hm] at ha
      refine tr ?_ (ih _ _ _ h)
      have : ∀ (l : List (Int × Cf)) (d : Cf), (∀ q ∈ l, mo c.2.2.2 q.2.2.2.2) → mo c.2.2.2 d.2.2.2 → mo c.2.2.2 (rSw x l d).2.2.2 := by
        intro l d
        induction l with
        | nil => exact fun _ h => h
        | cons q t ih2 =>
          intro h1 h2
          unfold rSw
          split
          · exact h1 q List.mem_cons_self
          · exact ih2 (fun q hq => h1 q (List.mem_cons_of_mem _ hq)) h2
      exact this l d ha.1 ha.2
