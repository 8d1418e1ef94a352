/-! ===== more locals, the same answer ===== -/
def lq (ls ls' : List (Option MV)) : Prop := ls.length = ls'.length ∧ ∀ (j : Nat) (v : MV), ls[j]? = some (some v) → ls'[j]? = some (some v)
def cq (c c' : Cf) : Prop := c.1 = c'.1 ∧ lq c.2.1 c'.2.1 ∧ c.2.2 = c'.2.2
def Aq (x y : Act) : Prop := match x, y with
  | none, _ => True
  | some (.inl c), some (.inl c') => cq c c'
  | some (.inr (.inl (p, x, y))), some (.inr (.inl (p', x', y'))) => p = p' ∧ cq x x' ∧ cq y y'
  | some (.inr (.inr (.inl q))), some (.inr (.inr (.inl q'))) => q = q'
  | some (.inr (.inr (.inr (.inl (p, m, as, σ, k))))), some (.inr (.inr (.inr (.inl (p', m', as', σ', k'))))) => (p = p' ∧ m = m' ∧ as = as' ∧ σ = σ') ∧ ∀ q, cq (k q) (k' q)
  | some (.inr (.inr (.inr (.inr (x, l, d))))), some (.inr (.inr (.inr (.inr (x', l', d'))))) => x = x' ∧ cq (rSw x l d) (rSw x l' d')
  | _, _ => False
theorem lq_refl (ls : List (Option MV)) : lq ls ls := ⟨rfl, fun _ _ h => h⟩
theorem cq_refl (c : Cf) : cq c c := ⟨rfl, lq_refl _, rfl⟩
theorem lq_lk {ls ls' : List (Option MV)} (h : lq ls ls') (j : Nat) : (lk ls j).length = (lk ls' j).length ∧ ∀ (i : Nat) (v : MV), ¬ i + 1 = j → (lk ls j)[i]? = some (some v) → (lk ls' j)[i]? = some (some v) := by
  have len : ∀ l : List (Option MV), (lk l j).length = l.length := fun l => by
    unfold lk
    split
    · rfl
    · split <;> simp
  have oth : ∀ (l : List (Option MV)) (i : Nat), ¬ i + 1 = j → (lk l j)[i]? = l[i]? := fun l i hi => by
    unfold lk
    split
    · rfl
    · split
      · rw [List.getElem?_set_ne (by omega)]
      · rfl
  refine ⟨by rw [len, len]; exact h.1, fun i v hi q => ?_⟩
  rw [oth _ _ hi] at q ⊢
  exact h.2 i v q
theorem lk_at {ls ls' : List (Option MV)} (h : lq ls ls') (j i : Nat) (v : MV) (hi : i + 1 = j) (q : (lk ls j)[i]? = some (some v)) : (lk ls' j)[i]? = some (some v) := by
  subst hi
  have a : ls[i]? = some (some v) ∧ ∀ x, v ≠ .inr (.inl x) := by
    unfold lk at q
    simp only at q
    split at q
    · rename_i x hx
      rw [List.getElem?_set] at q
      split at q
      · split at q <;> cases q
      · omega
    · rename_i hn
      exact ⟨q, fun x e => hn x (e ▸ q)⟩
  have b := h.2 i v a.1
  unfold lk
  simp only
  split
  · rename_i x hx
    rw [hx] at b
    cases b
    exact absurd rfl (a.2 x)
  · exact b
theorem lq_lk2 {ls ls' : List (Option MV)} (h : lq ls ls') (j : Nat) : lq (lk ls j) (lk ls' j) := by
  refine ⟨(lq_lk h j).1, fun i v q => ?_⟩
  by_cases hi : i + 1 = j
  · exact lk_at h j i v hi q
  · exact (lq_lk h j).2 i v hi q
theorem lq_set {ls ls' : List (Option MV)} (h : lq ls ls') (j : Nat) (o : Option MV) : lq (ls.set j o) (ls'.set j o) := by
  refine ⟨by simp [h.1], fun i v q => ?_⟩
  rw [List.getElem?_set] at q ⊢
  split at q
  · rename_i e
    rw [if_pos e]
    split at q
    · rename_i l
      rw [if_pos (by rw [← h.1]; exact l)]
      exact q
    · cases q
  · rename_i e
    rw [if_neg e]
    exact h.2 i v q
theorem lq_1 {ls ls' : List (Option MV)} (h : lq ls ls') (j : Nat) (v : MV) : lq (l1 ls j v) (l1 ls' j v) := lq_set (lq_lk2 h j) _ _
theorem lq_2 {ls ls' : List (Option MV)} (h : lq ls ls') (j : Nat) (v : MV) : lq (l2 ls j v) (l2 ls' j v) := lq_set (lq_set (lq_lk2 h j) _ _) _ _
section MONO
variable {tg : Nat → List Ins} {ls ls' : List (Option MV)} {st : List MV} {σ : MS} {r : List Ins}
theorem q_nx (h : lq ls ls') : Aq (aNx r ls st σ) (aNx r ls' st σ) := ⟨rfl, h, rfl⟩
theorem q_br {p : Prop} {d : Decidable p} {r r2 : List Ins} {st st2 : List MV} {σ σ2 : MS} (h : lq ls ls') : Aq (aBr p d (r, ls, st, σ) (r2, ls, st2, σ2)) (aBr p d (r, ls', st, σ) (r2, ls', st2, σ2)) := ⟨rfl, ⟨rfl, h, rfl⟩, rfl, h, rfl⟩
theorem q_bn {p : Prop} {d : Decidable p} {τ : MS} (h : lq ls ls') : Aq (aBr p d (r, ls, st, σ) (nCf τ)) (aBr p d (r, ls', st, σ) (nCf τ)) := ⟨rfl, ⟨rfl, h, rfl⟩, cq_refl _⟩

theorem q_mLdI (h : lq ls ls') (j : Nat) : Aq (mLdI j r ls st σ) (mLdI j r ls' st σ) := by
  unfold mLdI
  split
  · rename_i x hx
    rw [h.2 j _ hx]
    exact q_nx h
  · exact trivial
theorem q_mLdL (h : lq ls ls') (j : Nat) : Aq (mLdL j r ls st σ) (mLdL j r ls' st σ) := by
  unfold mLdL
  split
  · rename_i x hx
    rw [h.2 j _ hx]
    exact q_nx h
  · exact trivial
theorem q_mLdR (h : lq ls ls') (j : Nat) : Aq (mLdR j r ls st σ) (mLdR j r ls' st σ) := by
  unfold mLdR
  split
  · rename_i x hx
    rw [h.2 j _ hx]
    exact q_nx h
  · exact trivial
theorem q_mStI (h : lq ls ls') (j : Nat) : Aq (mStI j r ls st σ) (mStI j r ls' st σ) := by
  unfold mStI
  split
  · exact q_nx (lq_1 h _ _)
  · exact trivial
theorem q_mStR (h : lq ls ls') (j : Nat) : Aq (mStR j r ls st σ) (mStR j r ls' st σ) := by
  unfold mStR
  split
  · exact q_nx (lq_1 h _ _)
  · exact trivial
theorem q_mStL (h : lq ls ls') (j : Nat) : Aq (mStL j r ls st σ) (mStL j r ls' st σ) := by
  unfold mStL
  split
  · exact q_nx (lq_2 h _ _)
  · exact trivial
theorem q_mBI (h : lq ls ls') (f : Int → Int → Int) : Aq (mBI f r ls st σ) (mBI f r ls' st σ) := by
  unfold mBI
  split
  · exact q_nx h
  · exact trivial
theorem q_mBD (h : lq ls ls') (f : Int → Int → Int) : Aq (mBD f r ls st σ) (mBD f r ls' st σ) := by
  unfold mBD
  split
  · exact q_bn h
  · exact trivial
theorem q_mBL (h : lq ls ls') (f : BitVec 64 → BitVec 64 → BitVec 64) : Aq (mBL f r ls st σ) (mBL f r ls' st σ) := by
  unfold mBL
  split
  · exact q_nx h
  · exact trivial
theorem q_mBE (h : lq ls ls') (f : BitVec 64 → BitVec 64 → BitVec 64) : Aq (mBE f r ls st σ) (mBE f r ls' st σ) := by
  unfold mBE
  split
  · exact q_bn h
  · exact trivial
theorem q_mBS (h : lq ls ls') (f : BitVec 64 → Int → BitVec 64) : Aq (mBS f r ls st σ) (mBS f r ls' st σ) := by
  unfold mBS
  split
  · exact q_nx h
  · exact trivial
theorem q_mUI (h : lq ls ls') (f : Int → Int) : Aq (mUI f r ls st σ) (mUI f r ls' st σ) := by
  unfold mUI
  split
  · exact q_nx h
  · exact trivial
theorem q_mALd (h : lq ls ls') (f : Nat) : Aq (mALd f r ls st σ) (mALd f r ls' st σ) := by
  unfold mALd
  split
  · exact q_bn h
  · exact trivial
theorem q_mASt (h : lq ls ls') (f : Nat) : Aq (mASt f r ls st σ) (mASt f r ls' st σ) := by
  unfold mASt
  split
  · exact q_bn h
  · exact trivial
theorem q_mAStR (h : lq ls ls') (f : Nat) : Aq (mAStR f r ls st σ) (mAStR f r ls' st σ) := by
  unfold mAStR
  split
  · exact q_bn h
  · exact trivial
theorem q_mCpy (h : lq ls ls') (f : Nat) : Aq (mCpy f r ls st σ) (mCpy f r ls' st σ) := by
  unfold mCpy
  split
  · exact q_bn h
  · exact trivial
theorem q_mAStL (h : lq ls ls') : Aq (mAStL r ls st σ) (mAStL r ls' st σ) := by
  unfold mAStL
  split
  · exact q_bn h
  · exact trivial
theorem q_mChx (h : lq ls ls') : Aq (mChx r ls st σ) (mChx r ls' st σ) := by
  unfold mChx
  split
  · exact q_bn h
  · exact trivial
theorem q_mGet (h : lq ls ls') (a b k : Nat) : Aq (mGet a b k r ls st σ) (mGet a b k r ls' st σ) := by
  unfold mGet
  split
  · exact q_bn h
  · exact trivial
theorem q_mPut (h : lq ls ls') (a b k : Nat) : Aq (mPut a b k r ls st σ) (mPut a b k r ls' st σ) := by
  unfold mPut
  split
  · split
    · exact q_bn h
    · exact q_bn h
    · exact trivial
  · split
    · exact q_bn h
    · exact trivial
  · split
    · exact q_bn h
    · exact q_bn h
    · exact q_bn h
    · exact trivial
  · exact trivial
theorem q_mCal (h : lq ls ls') (m n ci : Nat) : Aq (mCal m n ci r ls st σ) (mCal m n ci r ls' st σ) := by
  unfold mCal
  split
  · split
    · exact ⟨⟨rfl, rfl, rfl, rfl⟩, fun q => ⟨rfl, h, rfl⟩⟩
    · exact trivial
  · split
    · split
      · exact ⟨⟨rfl, rfl, rfl, rfl⟩, fun q => ⟨rfl, h, rfl⟩⟩
      · exact trivial
    · exact trivial
theorem q_mIf (h : lq ls ls') (c : Jvm.ClassFile.Cond) (x y : Int) (t f : List Ins) (s : List MV) : Aq (mIf c x y (t, ls, s, σ) (f, ls, s, σ)) (mIf c x y (t, ls', s, σ) (f, ls', s, σ)) := by
  cases c <;> exact q_br h
theorem q_mIfL (h : lq ls ls') (c : Jvm.ClassFile.Cond) (x y : BitVec 64) (t f : List Ins) (s : List MV) : Aq (mIfL c x y (t, ls, s, σ) (f, ls, s, σ)) (mIfL c x y (t, ls', s, σ) (f, ls', s, σ)) := by
  cases c <;> exact q_br h
theorem q_mNull (h : lq ls ls') (c : Bool) (t f : List Ins) : Aq (mNull c st ls t f σ) (mNull c st ls' t f σ) := by
  unfold mNull
  split
  · exact q_br h
  · exact trivial
theorem q_mRetI (k : Nat) : Aq (mRetI k st σ) (mRetI k st σ) := by
  unfold mRetI
  split
  · split <;> exact rfl
  · exact trivial
theorem q_sw (h : lq ls ls') (x : Int) (t : List (Int × Nat)) (s : List MV) (a : Nat) : Aq (aSw x (t.map fun q => (q.1, (tg q.2, ls, s, σ))) (tg a, ls, s, σ)) (aSw x (t.map fun q => (q.1, (tg q.2, ls', s, σ))) (tg a, ls', s, σ)) := by
  refine ⟨rfl, ?_⟩
  have e : ∀ l : List (Option MV), rSw x (t.map fun q => (q.1, ((tg q.2, l, s, σ) : Cf))) (tg a, l, s, σ) = (tg (rSw x t a), l, s, σ) := fun l => rSw_map (fun b => ((tg b, l, s, σ) : Cf)) x a t
  show cq (rSw x (t.map fun q => (q.1, ((tg q.2, ls, s, σ) : Cf))) (tg a, ls, s, σ)) (rSw x (t.map fun q => (q.1, ((tg q.2, ls', s, σ) : Cf))) (tg a, ls', s, σ))
  rw [e, e]
  exact ⟨rfl, h, rfl⟩

theorem mstep_q (tg : Nat → List Ins) (code : List Ins) {ls ls' : List (Option MV)} (st : List MV) (σ : MS) (h : lq ls ls') : Aq (mstep tg (code, ls, st, σ)) (mstep tg (code, ls', st, σ)) := by
  match code with
  | [] => exact trivial
  | (i, pc, a, b, k, t) :: r =>
    cases i with
    | iload_n n => exact q_mLdI h _
    | iload n => exact q_mLdI h _
    | lload_n n => exact q_mLdL h _
    | lload n => exact q_mLdL h _
    | aload_n n => exact q_mLdR h _
    | aload n => exact q_mLdR h _
    | istore_n n => exact q_mStI h _
    | istore n => exact q_mStI h _
    | lstore_n n => exact q_mStL h _
    | lstore n => exact q_mStL h _
    | astore_n n => exact q_mStR h _
    | astore n => exact q_mStR h _
    | iinc n d =>
      show Aq (match ls[n]? with
        | some (some (.inl x)) => aNx r (l1 ls n (mI (w32 (x + d)))) st σ
        | _ => none) (match ls'[n]? with
        | some (some (.inl x)) => aNx r (l1 ls' n (mI (w32 (x + d)))) st σ
        | _ => none)
      split
      · rename_i x hx
        rw [h.2 n _ hx]
        exact q_nx (lq_1 h _ _)
      · exact trivial
    | iconst n => exact q_nx h
    | bipush n => exact q_nx h
    | sipush n => exact q_nx h
    | lconst n => exact q_nx h
    | aconst_null => exact q_nx h
    | goto o => exact q_nx h
    | nop => exact q_nx h
    | ldc n =>
      rcases t with _ | ⟨⟨v, u⟩, t⟩
      · exact trivial
      · by_cases hk : k = 0
        · subst hk; exact q_nx h
        · show Aq (if k = 0 then _ else _) (if k = 0 then _ else _)
          rw [if_neg hk, if_neg hk]
          exact q_nx h
    | ldc_w n =>
      rcases t with _ | ⟨⟨v, u⟩, t⟩
      · exact trivial
      · by_cases hk : k = 0
        · subst hk; exact q_nx h
        · show Aq (if k = 0 then _ else _) (if k = 0 then _ else _)
          rw [if_neg hk, if_neg hk]
          exact q_nx h
    | ldc2_w n =>
      rcases t with _ | ⟨⟨v, u⟩, t⟩
      · exact trivial
      · exact q_nx h
    | getstatic n =>
      rcases t with _ | ⟨⟨v, u⟩, t⟩
      · exact trivial
      · exact q_nx h
    | iadd => exact q_mBI h _
    | isub => exact q_mBI h _
    | imul => exact q_mBI h _
    | iand => exact q_mBI h _
    | ior => exact q_mBI h _
    | ixor => exact q_mBI h _
    | ishl => exact q_mBI h _
    | ishr => exact q_mBI h _
    | idiv => exact q_mBD h _
    | irem => exact q_mBD h _
    | ineg => exact q_mUI h _
    | i2b => exact q_mUI h _
    | i2s => exact q_mUI h _
    | i2c => exact q_mUI h _
    | ladd => exact q_mBL h _
    | lsub => exact q_mBL h _
    | lmul => exact q_mBL h _
    | land => exact q_mBL h _
    | lor => exact q_mBL h _
    | lxor => exact q_mBL h _
    | ldiv => exact q_mBE h _
    | lrem => exact q_mBE h _
    | lshl => exact q_mBS h _
    | lshr => exact q_mBS h _
    | lushr => exact q_mBS h _
    | lneg => (first | exact trivial | exact q_nx h | exact q_bn h | exact q_br h | (rcases st with _ | ⟨v1, t1⟩ <;> first | exact trivial | (rcases v1 with v1 | v1 | v1 <;> (first | exact trivial | exact q_nx h | exact q_bn h | exact q_br h))))
    | i2l => (first | exact trivial | exact q_nx h | exact q_bn h | exact q_br h | (rcases st with _ | ⟨v1, t1⟩ <;> first | exact trivial | (rcases v1 with v1 | v1 | v1 <;> (first | exact trivial | exact q_nx h | exact q_bn h | exact q_br h))))
    | l2i => (first | exact trivial | exact q_nx h | exact q_bn h | exact q_br h | (rcases st with _ | ⟨v1, t1⟩ <;> first | exact trivial | (rcases v1 with v1 | v1 | v1 <;> (first | exact trivial | exact q_nx h | exact q_bn h | exact q_br h))))
    | dup => (first | exact trivial | exact q_nx h | exact q_bn h | exact q_br h | (rcases st with _ | ⟨v1, t1⟩ <;> first | exact trivial | (rcases v1 with v1 | v1 | v1 <;> (first | exact trivial | exact q_nx h | exact q_bn h | exact q_br h))))
    | dup2 => (first | exact trivial | exact q_nx h | exact q_bn h | exact q_br h | (rcases st with _ | ⟨v2, t2⟩ <;> first | exact trivial | (rcases v2 with v2 | v2 | v2 <;> (first | exact trivial | exact q_nx h | exact q_bn h | exact q_br h | (rcases t2 with _ | ⟨v1, t1⟩ <;> first | exact trivial | (rcases v1 with v1 | v1 | v1 <;> (first | exact trivial | exact q_nx h | exact q_bn h | exact q_br h)))))))
    | pop => (first | exact trivial | exact q_nx h | exact q_bn h | exact q_br h | (rcases st with _ | ⟨v1, t1⟩ <;> first | exact trivial | (rcases v1 with v1 | v1 | v1 <;> (first | exact trivial | exact q_nx h | exact q_bn h | exact q_br h))))
    | pop2 => (first | exact trivial | exact q_nx h | exact q_bn h | exact q_br h | (rcases st with _ | ⟨v1, t1⟩ <;> first | exact trivial | (rcases v1 with v1 | v1 | v1 <;> (first | exact trivial | exact q_nx h | exact q_bn h | exact q_br h))))
    | dup_x1 => (first | exact trivial | exact q_nx h | exact q_bn h | exact q_br h | (rcases st with _ | ⟨v2, t2⟩ <;> first | exact trivial | (rcases v2 with v2 | v2 | v2 <;> (first | exact trivial | exact q_nx h | exact q_bn h | exact q_br h | (rcases t2 with _ | ⟨v1, t1⟩ <;> first | exact trivial | (rcases v1 with v1 | v1 | v1 <;> (first | exact trivial | exact q_nx h | exact q_bn h | exact q_br h)))))))
    | dup2_x1 => (first | exact trivial | exact q_nx h | exact q_bn h | exact q_br h | (rcases st with _ | ⟨v2, t2⟩ <;> first | exact trivial | (rcases v2 with v2 | v2 | v2 <;> (first | exact trivial | exact q_nx h | exact q_bn h | exact q_br h | (rcases t2 with _ | ⟨v1, t1⟩ <;> first | exact trivial | (rcases v1 with v1 | v1 | v1 <;> (first | exact trivial | exact q_nx h | exact q_bn h | exact q_br h)))))))
    | lcmp =>
      rcases r with _ | ⟨⟨j, pc2, a2, b2', k2, t2⟩, r2⟩
      · exact trivial
      · cases j <;> first | exact trivial | (rcases st with _ | ⟨v, s⟩ <;> first | exact trivial | (rcases v with v | v | v <;> first | exact trivial | (rcases s with _ | ⟨u, s⟩ <;> first | exact trivial | (rcases u with u | u | u <;> first | exact trivial | exact q_mIfL h _ _ _ _ _ _))))
    | ifCond cc o => (rcases st with _ | ⟨v, s⟩ <;> first | exact trivial | (rcases v with v | v | v <;> first | exact trivial | exact q_mIf h _ _ _ _ _ _))
    | if_icmp cc o => (rcases st with _ | ⟨v, s⟩ <;> first | exact trivial | (rcases v with v | v | v <;> first | exact trivial | (rcases s with _ | ⟨u, s⟩ <;> first | exact trivial | (rcases u with u | u | u <;> first | exact trivial | exact q_mIf h _ _ _ _ _ _))))
    | if_acmp cc o => (rcases st with _ | ⟨v, s⟩ <;> first | exact trivial | (rcases v with v | v | v <;> first | exact trivial | (rcases s with _ | ⟨u, s⟩ <;> first | exact trivial | (rcases u with u | u | u <;> first | exact trivial | (rcases k with _ | k <;> first | exact q_bn h | (cases cc <;> exact q_br h))))))
    | ifnull o => exact q_mNull h _ _ _
    | ifnonnull o => exact q_mNull h _ _ _
    | tableswitch o1 o2 o3 o4 => (rcases st with _ | ⟨v, s⟩ <;> first | exact trivial | (rcases v with v | v | v <;> first | exact trivial | exact q_sw h _ _ _ _))
    | lookupswitch o1 o2 => (rcases st with _ | ⟨v, s⟩ <;> first | exact trivial | (rcases v with v | v | v <;> first | exact trivial | exact q_sw h _ _ _ _))
    | getfield o => exact q_mGet h _ _ _
    | putfield o => exact q_mPut h _ _ _
    | iaload => exact q_mALd h _
    | baload => exact q_mALd h _
    | laload => exact q_mALd h _
    | aaload => exact q_mALd h _
    | iastore => exact q_mASt h _
    | bastore => exact q_mASt h _
    | lastore => exact q_mAStL h
    | aastore => exact q_mAStR h _
    | arraylength => (rcases st with _ | ⟨v, s⟩ <;> first | exact trivial | (rcases v with v | v | v <;> first | exact trivial | exact q_bn h))
    | newarray o =>
      rcases st with _ | ⟨v, s⟩
      · exact trivial
      · rcases v with v | v | v
        · by_cases hv : v = 4800
          · subst hv; exact q_nx h
          · show Aq (if v = 4800 then _ else _) (if v = 4800 then _ else _)
            rw [if_neg hv, if_neg hv]
            exact trivial
        · exact trivial
        · exact trivial
    | new o =>
      show Aq (match r with
        | (.dup, _) :: (.invokespecial _, _) :: r2 => if a = 8 ∧ stW st ≤ 7 then aNx r2 ls (mR (some (nC σ)) :: st) (alS σ) else none
        | _ => none) (match r with
        | (.dup, _) :: (.invokespecial _, _) :: r2 => if a = 8 ∧ stW st ≤ 7 then aNx r2 ls' (mR (some (nC σ)) :: st) (alS σ) else none
        | _ => none)
      split
      · split
        · exact q_nx h
        · exact trivial
      · exact trivial
    | invokevirtual o =>
      rcases t with _ | ⟨v, t⟩
      · exact q_mCal h _ _ _
      · exact trivial
    | invokestatic o =>
      show Aq (match t with
        | [] => mCal a b 99 r ls st σ
        | (1, _) :: _ => if stW st ≤ 13 then mCpy a r ls st σ else none
        | (2, _) :: _ => mChx r ls st σ
        | _ => none) (match t with
        | [] => mCal a b 99 r ls' st σ
        | (1, _) :: _ => if stW st ≤ 13 then mCpy a r ls' st σ else none
        | (2, _) :: _ => mChx r ls' st σ
        | _ => none)
      split
      · exact q_mCal h _ _ _
      · split
        · exact q_mCpy h _
        · exact trivial
      · exact q_mChx h
      · exact trivial
    | ireturn => exact q_mRetI _
    | lreturn => (rcases st with _ | ⟨v, s⟩ <;> first | exact trivial | (rcases v with v | v | v <;> first | exact trivial | (rcases s with _ | ⟨u, s⟩ <;> first | exact trivial | exact rfl)))
    | areturn => (rcases st with _ | ⟨v, s⟩ <;> first | exact trivial | (rcases v with v | v | v <;> first | exact trivial | (rcases s with _ | ⟨u, s⟩ <;> first | exact trivial | exact rfl)))
    | return_ => (rcases st with _ | ⟨v, s⟩ <;> first | exact trivial | exact rfl)
    | _ => exact trivial
end MONO
theorem run_q : ∀ (n : Nat) (tg : Nat → List Ins) (c c' : Cf) (r : Rs), cq c c' → run n tg c = some r → run n tg c' = some r := by
  intro n
  induction n with
  | zero => intro tg c c' r _ h; cases h
  | succ n ih =>
    intro tg c c' r hq h
    have a : Aq (mstep tg c) (mstep tg c') := by
      obtain ⟨c1, c2, c3⟩ := c
      obtain ⟨d1, d2, d3⟩ := c'
      obtain ⟨e1, e2, e3⟩ := hq
      cases e1
      cases e3
      exact mstep_q tg c1 c3.1 c3.2 e2
    rw [run] at h ⊢
    generalize mstep tg c' = A' at a
    split at h
    · cases h
    · rename_i c1 hm
      rw [hm] at a
      match A', a with
      | some (.inl c2), a => exact ih _ _ _ _ a h
    · rename_i p x y hm
      rw [hm] at a
      match A', a with
      | some (.inr (.inl (p', x', y'))), a =>
        obtain ⟨e, a1, a2⟩ := a
        subst e
        by_cases hp : p.1
        · simp only [if_pos hp] at h ⊢
          exact ih _ _ _ _ a1 h
        · simp only [if_neg hp] at h ⊢
          exact ih _ _ _ _ a2 h
    · rename_i p q hm
      rw [hm] at a
      match A', a with
      | some (.inr (.inr (.inl q'))), a =>
        cases a
        exact h
    · rename_i p m as σ k hm
      rw [hm] at a
      match A', a with
      | some (.inr (.inr (.inr (.inl (p', m', as', σ', k'))))), a =>
        obtain ⟨⟨e1, e2, e3, e4⟩, a⟩ := a
        subst e1 e2 e3 e4
        by_cases hp : p.1
        · simp only [if_pos hp] at h ⊢
          obtain ⟨q, h1, h2⟩ := Option.bind_eq_some_iff.mp h
          exact Option.bind_eq_some_iff.mpr ⟨q, h1, ih _ _ _ _ (a q) h2⟩
        · simp only [if_neg hp] at h
          cases h
    · rename_i x l d hm
      rw [hm] at a
      match A', a with
      | some (.inr (.inr (.inr (.inr (x', l', d'))))), a =>
        obtain ⟨e, a⟩ := a
        subst e
        exact ih _ _ _ _ a h
theorem RR_q {tg : Nat → List Ins} {B : List Ins} {ls ls' : List (Option MV)} {st : List MV} {σ : MS} {r : Rs} (h : RR tg (B, ls, st, σ) = some r) (hq : lq ls ls') : RR tg (B, ls', st, σ) = some r := by
  obtain ⟨n, hn⟩ := RR_ex h
  exact RR_of (run_q n tg (B, ls, st, σ) (B, ls', st, σ) r ⟨rfl, hq, rfl⟩ hn)
theorem lq_cons {a b : Option MV} {l l' : List (Option MV)} (h : a = none ∨ a = b) (t : lq l l') : lq (a :: l) (b :: l') := by
  refine ⟨by simp [t.1], fun j v q => ?_⟩
  cases j with
  | zero =>
    rcases h with h | h
    · rw [h] at q; cases q
    · rw [← h]; exact q
  | succ j => exact t.2 j v q
theorem lq_nil : lq [] [] := ⟨rfl, fun _ _ h => by cases h⟩
