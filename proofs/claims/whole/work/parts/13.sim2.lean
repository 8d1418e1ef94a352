/-! ===== steps of a run, told apart ===== -/
section INV
variable {n : Nat} {tg : Nat → List Ins} {c : Cf} {r : Rs} {rr : List Ins} {ls : List (Option MV)} {st : List MV} {σ : MS}
theorem run_nx {c' : Cf} (hr : run (n + 1) tg c = some r) (h : mstep tg c = some (.inl c')) : run n tg c' = some r := by rw [run, h] at hr; exact hr
theorem run_nil : ∀ {n : Nat} {tg : Nat → List Ins} {r : Rs} {ls : List (Option MV)} {st : List MV} {σ : MS}, run n tg ([], ls, st, σ) = some r → False
  | 0, _, _, _, _, _, h => by cases h
  | n + 1, _, _, _, _, _, h => by rw [run] at h; cases h
theorem run_br {p : DP} {x y : Cf} (hr : run (n + 1) tg c = some r) (h : mstep tg c = some (.inr (.inl (p, x, y)))) : (p.1 ∧ run n tg x = some r) ∨ (¬ p.1 ∧ run n tg y = some r) := by
  rw [run, h] at hr
  by_cases hp : p.1
  · simp only [if_pos hp] at hr
    exact Or.inl ⟨hp, hr⟩
  · simp only [if_neg hp] at hr
    exact Or.inr ⟨hp, hr⟩
theorem run_gd {p : Prop} {d : Decidable p} {x : Cf} {σ2 : MS} (hr : run (n + 1) tg c = some r) (h : mstep tg c = aBr p d x (nCf σ2)) : p ∧ run n tg x = some r := by
  rcases run_br hr h with h | h
  · exact h
  · exact (run_nil h.2).elim
theorem run_if {p : Prop} {d : Decidable p} {x y : Cf} (hr : run (n + 1) tg c = some r) (h : mstep tg c = aBr p d x y) : (p ∧ run n tg x = some r) ∨ (¬ p ∧ run n tg y = some r) := run_br hr h
theorem run_rt {p : Prop} {d : Decidable p} {v : Option MV} {σ2 : MS} (hr : run (n + 1) tg c = some r) (h : mstep tg c = aRt p d v σ2) : p ∧ (v, σ2) = r := by
  rw [run, h] at hr
  unfold aRt at hr
  by_cases hp : p
  · simp only [if_pos hp] at hr
    exact ⟨hp, Option.some.inj hr⟩
  · simp only [if_neg hp] at hr
    cases hr
theorem run_cl {p : Prop} {d : Decidable p} {m : Nat} {as : List MV} {σ2 : MS} {k : Rs → Cf} (hr : run (n + 1) tg c = some r) (h : mstep tg c = aCl p d m as σ2 k) : p ∧ ∃ q, run n (tG m) (enC m as σ2) = some q ∧ run n tg (k q) = some r := by
  rw [run, h] at hr
  unfold aCl at hr
  by_cases hp : p
  · simp only [if_pos hp] at hr
    exact ⟨hp, Option.bind_eq_some_iff.mp hr⟩
  · simp only [if_neg hp] at hr
    cases hr
theorem run_sw {x : Int} {l : List (Int × Cf)} {d : Cf} (hr : run (n + 1) tg c = some r) (h : mstep tg c = aSw x l d) : run n tg (rSw x l d) = some r := by
  rw [run, h] at hr
  exact hr
theorem run_no (hr : run (n + 1) tg c = some r) (h : mstep tg c = none) : False := by
  rw [run, h] at hr
  cases hr
theorem iLdI {j : Nat} (hr : run (n + 1) tg c = some r) (h : mstep tg c = mLdI j rr ls st σ) : ∃ x, ls[j]? = some (some (mI x)) ∧ run n tg (rr, ls, mI x :: st, σ) = some r := by
  unfold mLdI at h
  split at h
  · rename_i x hx
    exact ⟨x, hx, run_nx hr h⟩
  · exact (run_no hr h).elim
theorem iLdL {j : Nat} (hr : run (n + 1) tg c = some r) (h : mstep tg c = mLdL j rr ls st σ) : ∃ x, ls[j]? = some (some (mL x)) ∧ run n tg (rr, ls, mL x :: st, σ) = some r := by
  unfold mLdL at h
  split at h
  · rename_i x hx
    exact ⟨x, hx, run_nx hr h⟩
  · exact (run_no hr h).elim
theorem iLdR {j : Nat} (hr : run (n + 1) tg c = some r) (h : mstep tg c = mLdR j rr ls st σ) : ∃ x, ls[j]? = some (some (mR x)) ∧ run n tg (rr, ls, mR x :: st, σ) = some r := by
  unfold mLdR at h
  split at h
  · rename_i x hx
    exact ⟨x, hx, run_nx hr h⟩
  · exact (run_no hr h).elim
theorem iStI {j : Nat} (hr : run (n + 1) tg c = some r) (h : mstep tg c = mStI j rr ls st σ) : ∃ x s, st = mI x :: s ∧ run n tg (rr, l1 ls j (mI x), s, σ) = some r := by
  unfold mStI at h
  split at h
  · exact ⟨_, _, rfl, run_nx hr h⟩
  · exact (run_no hr h).elim
theorem iStL {j : Nat} (hr : run (n + 1) tg c = some r) (h : mstep tg c = mStL j rr ls st σ) : ∃ x s, st = mL x :: s ∧ run n tg (rr, l2 ls j (mL x), s, σ) = some r := by
  unfold mStL at h
  split at h
  · exact ⟨_, _, rfl, run_nx hr h⟩
  · exact (run_no hr h).elim
theorem iStR {j : Nat} (hr : run (n + 1) tg c = some r) (h : mstep tg c = mStR j rr ls st σ) : ∃ x s, st = mR x :: s ∧ run n tg (rr, l1 ls j (mR x), s, σ) = some r := by
  unfold mStR at h
  split at h
  · exact ⟨_, _, rfl, run_nx hr h⟩
  · exact (run_no hr h).elim
theorem iBI {f : Int → Int → Int} (hr : run (n + 1) tg c = some r) (h : mstep tg c = mBI f rr ls st σ) : ∃ y x s, st = mI y :: mI x :: s ∧ run n tg (rr, ls, mI (f x y) :: s, σ) = some r := by
  unfold mBI at h
  split at h
  · exact ⟨_, _, _, rfl, run_nx hr h⟩
  · exact (run_no hr h).elim
theorem iBD {f : Int → Int → Int} (hr : run (n + 1) tg c = some r) (h : mstep tg c = mBD f rr ls st σ) : ∃ y x s, st = mI y :: mI x :: s ∧ ¬ y = 0 ∧ run n tg (rr, ls, mI (f x y) :: s, σ) = some r := by
  unfold mBD at h
  split at h
  · exact ⟨_, _, _, rfl, run_gd hr h⟩
  · exact (run_no hr h).elim
theorem iBL {f : BitVec 64 → BitVec 64 → BitVec 64} (hr : run (n + 1) tg c = some r) (h : mstep tg c = mBL f rr ls st σ) : ∃ y x s, st = mL y :: mL x :: s ∧ run n tg (rr, ls, mL (f x y) :: s, σ) = some r := by
  unfold mBL at h
  split at h
  · exact ⟨_, _, _, rfl, run_nx hr h⟩
  · exact (run_no hr h).elim
theorem iBE {f : BitVec 64 → BitVec 64 → BitVec 64} (hr : run (n + 1) tg c = some r) (h : mstep tg c = mBE f rr ls st σ) : ∃ y x s, st = mL y :: mL x :: s ∧ ¬ y = 0 ∧ run n tg (rr, ls, mL (f x y) :: s, σ) = some r := by
  unfold mBE at h
  split at h
  · exact ⟨_, _, _, rfl, run_gd hr h⟩
  · exact (run_no hr h).elim
theorem iBS {f : BitVec 64 → Int → BitVec 64} (hr : run (n + 1) tg c = some r) (h : mstep tg c = mBS f rr ls st σ) : ∃ y x s, st = mI y :: mL x :: s ∧ run n tg (rr, ls, mL (f x y) :: s, σ) = some r := by
  unfold mBS at h
  split at h
  · exact ⟨_, _, _, rfl, run_nx hr h⟩
  · exact (run_no hr h).elim
theorem iUI {f : Int → Int} (hr : run (n + 1) tg c = some r) (h : mstep tg c = mUI f rr ls st σ) : ∃ x s, st = mI x :: s ∧ run n tg (rr, ls, mI (f x) :: s, σ) = some r := by
  unfold mUI at h
  split at h
  · exact ⟨_, _, rfl, run_nx hr h⟩
  · exact (run_no hr h).elim
theorem iALd {ty : Nat} (hr : run (n + 1) tg c = some r) (h : mstep tg c = mALd ty rr ls st σ) : ∃ i k s, st = mI i :: mR (some k) :: s ∧ ab σ ty k i ∧ run n tg (rr, ls, (if ty = 9 then mI (σ.2.2.2.2.2.2 i.toNat) else if ty = 8 then mI ((strAt (k - strB)).getD i.toNat 0 : Nat) else if ty = 4 then mL (gL σ k i.toNat) else if 5 ≤ ty ∧ ty ≤ 7 then mR (gR σ k i.toNat) else mI (gI σ k i.toNat)) :: s, σ) = some r := by
  unfold mALd at h
  split at h
  · rename_i i x s
    obtain ⟨⟨h1, h2⟩, h3⟩ := run_gd hr h
    obtain ⟨k, rfl⟩ := Option.isSome_iff_exists.mp h1
    exact ⟨i, k, s, rfl, h2, h3⟩
  · exact (run_no hr h).elim
theorem iASt {ty : Nat} (hr : run (n + 1) tg c = some r) (h : mstep tg c = mASt ty rr ls st σ) : ∃ v i k s, st = mI v :: mI i :: mR (some k) :: s ∧ ab σ ty k i ∧ run n tg (rr, ls, s, sI σ k i.toNat (if ty = 1 then w8 v else if ty = 2 then v % 2 else v)) = some r := by
  unfold mASt at h
  split at h
  · rename_i v i x s
    obtain ⟨⟨h1, h2⟩, h3⟩ := run_gd hr h
    obtain ⟨k, rfl⟩ := Option.isSome_iff_exists.mp h1
    exact ⟨v, i, k, s, rfl, h2, h3⟩
  · exact (run_no hr h).elim
theorem iAStL (hr : run (n + 1) tg c = some r) (h : mstep tg c = mAStL rr ls st σ) : ∃ v i k s, st = mL v :: mI i :: mR (some k) :: s ∧ ab σ 4 k i ∧ run n tg (rr, ls, s, sL σ k i.toNat v) = some r := by
  unfold mAStL at h
  split at h
  · rename_i v i x s
    obtain ⟨⟨h1, h2⟩, h3⟩ := run_gd hr h
    obtain ⟨k, rfl⟩ := Option.isSome_iff_exists.mp h1
    exact ⟨v, i, k, s, rfl, h2, h3⟩
  · exact (run_no hr h).elim
theorem iAStR {ty : Nat} (hr : run (n + 1) tg c = some r) (h : mstep tg c = mAStR ty rr ls st σ) : ∃ v i k s, st = mR v :: mI i :: mR (some k) :: s ∧ ab σ ty k i ∧ aq σ ty v ∧ run n tg (rr, ls, s, sR σ k i.toNat v) = some r := by
  unfold mAStR at h
  split at h
  · rename_i v i x s
    obtain ⟨⟨⟨h1, h2⟩, h4⟩, h3⟩ := run_gd hr h
    obtain ⟨k, rfl⟩ := Option.isSome_iff_exists.mp h1
    exact ⟨v, i, k, s, rfl, h2, h4, h3⟩
  · exact (run_no hr h).elim
/-- what a field's kind gives -/
def gF (σ : MS) (c s k kk : Nat) : MV := match kk with
  | 0 => mI (gI σ k s)
  | 1 => mL (gL σ k s)
  | 2 => mR (gR σ k s)
  | 3 => mR (some (fIn c s k))
  | 5 => mR (gR σ k s)
  | 6 => mR (gR σ k s)
  | 7 => mR (some (strB + (k - strK)))
  | 8 => mI 0
  | _ => mI (gI σ k s)
theorem iGet {ci s kk : Nat} (hr : run (n + 1) tg c = some r) (h : mstep tg c = mGet ci s kk rr ls st σ) : ∃ k st', st = mR (some k) :: st' ∧ (kd σ k).1 = 20 + ci ∧ run n tg (rr, ls, gF σ ci s k kk :: st', σ) = some r := by
  unfold mGet at h
  split at h
  · rename_i x st'
    obtain ⟨⟨h1, h2⟩, h3⟩ := run_gd hr h
    obtain ⟨k, rfl⟩ := Option.isSome_iff_exists.mp h1
    exact ⟨k, st', rfl, h2, h3⟩
  · exact (run_no hr h).elim
theorem iPut {ci s kk : Nat} (hr : run (n + 1) tg c = some r) (h : mstep tg c = mPut ci s kk rr ls st σ) : ∃ k st', (kd σ k).1 = 20 + ci ∧ ((∃ v, st = mI v :: mR (some k) :: st' ∧ (kk = 0 ∨ kk = 4 ∧ bl v) ∧ run n tg (rr, ls, st', sI σ k s v) = some r) ∨ (∃ v, st = mL v :: mR (some k) :: st' ∧ kk = 1 ∧ run n tg (rr, ls, st', sL σ k s v) = some r) ∨ (∃ v, st = mR v :: mR (some k) :: st' ∧ (kk = 2 ∨ kk = 5 ∨ kk = 6) ∧ ak σ kk v ∧ run n tg (rr, ls, st', sR σ k s v) = some r)) := by
  unfold mPut at h
  split at h
  · rename_i v x st'
    split at h
    · obtain ⟨⟨h1, h2⟩, h3⟩ := run_gd hr h
      obtain ⟨k, rfl⟩ := Option.isSome_iff_exists.mp h1
      exact ⟨k, st', h2, Or.inl ⟨v, rfl, Or.inl rfl, h3⟩⟩
    · obtain ⟨⟨⟨h1, h2⟩, h4⟩, h3⟩ := run_gd hr h
      obtain ⟨k, rfl⟩ := Option.isSome_iff_exists.mp h1
      exact ⟨k, st', h2, Or.inl ⟨v, rfl, Or.inr ⟨rfl, h4⟩, h3⟩⟩
    · exact (run_no hr h).elim
  · rename_i v x st'
    split at h
    · obtain ⟨⟨h1, h2⟩, h3⟩ := run_gd hr h
      obtain ⟨k, rfl⟩ := Option.isSome_iff_exists.mp h1
      exact ⟨k, st', h2, Or.inr (Or.inl ⟨v, rfl, rfl, h3⟩)⟩
    · exact (run_no hr h).elim
  · rename_i v x st'
    split at h
    · obtain ⟨⟨⟨h1, h2⟩, h4⟩, h3⟩ := run_gd hr h
      obtain ⟨k, rfl⟩ := Option.isSome_iff_exists.mp h1
      exact ⟨k, st', h2, Or.inr (Or.inr ⟨v, rfl, Or.inl rfl, h4, h3⟩)⟩
    · obtain ⟨⟨⟨h1, h2⟩, h4⟩, h3⟩ := run_gd hr h
      obtain ⟨k, rfl⟩ := Option.isSome_iff_exists.mp h1
      exact ⟨k, st', h2, Or.inr (Or.inr ⟨v, rfl, Or.inr (Or.inl rfl), h4, h3⟩)⟩
    · obtain ⟨⟨⟨h1, h2⟩, h4⟩, h3⟩ := run_gd hr h
      obtain ⟨k, rfl⟩ := Option.isSome_iff_exists.mp h1
      exact ⟨k, st', h2, Or.inr (Or.inr ⟨v, rfl, Or.inr (Or.inr rfl), h4, h3⟩)⟩
    · exact (run_no hr h).elim
  · exact (run_no hr h).elim
theorem iCal {m j ci : Nat} (hr : run (n + 1) tg c = some r) (h : mstep tg c = mCal m j ci rr ls st σ) : (ci = 99 ∧ j ≤ st.length ∧ stW (st.drop j) ≤ 10 ∧ ∃ q, run n (tG m) (enC m (st.take j).reverse σ) = some q ∧ run n tg (rr, ls, q.1.toList ++ st.drop j, q.2) = some r) ∨ (ci ≠ 99 ∧ ∃ k s, st.drop j = mR (some k) :: s ∧ stW s ≤ 10 ∧ (kd σ k).1 = 20 + ci ∧ ∃ q, run n (tG m) (enC m (st.take (j + 1)).reverse σ) = some q ∧ run n tg (rr, ls, q.1.toList ++ s, q.2) = some r) := by
  unfold mCal at h
  split at h
  · rename_i h9
    split at h
    · rename_i hj
      obtain ⟨-, q, h1, h2⟩ := run_cl hr h
      exact Or.inl ⟨h9, hj.1, hj.2, q, h1, h2⟩
    · exact (run_no hr h).elim
  · rename_i h9
    split at h
    · rename_i x s hs
      split at h
      · rename_i h8
        obtain ⟨⟨h3, h4⟩, q, h1, h2⟩ := run_cl hr h
        obtain ⟨k, rfl⟩ := Option.isSome_iff_exists.mp h3
        exact Or.inr ⟨h9, k, s, hs, h8, h4, q, h1, h2⟩
      · exact (run_no hr h).elim
    · exact (run_no hr h).elim
end INV
