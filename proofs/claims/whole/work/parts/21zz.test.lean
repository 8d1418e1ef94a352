-- FILE 20z.mono
/-! ===== more locals, the same answer ===== -/
def lq (ls ls' : List (Option MV)) : Prop := ls.length = ls'.length ∧ ∀ (j : Nat) (v : MV), ls[j]? = some (some v) → ls'[j]? = some (some v)
def cq (c c' : Cf) : Prop := c.1 = c'.1 ∧ lq c.2.1 c'.2.1 ∧ c.2.2 = c'.2.2
def Aq (x y : Act) : Prop := match x, y with
  | none, _ => True
  | some (.inl c), some (.inl c') => cq c c'
  | some (.inr (.inl (p, x, y))), some (.inr (.inl (p', x', y'))) => p = p' ∧ cq x x' ∧ cq y y'
  | some (.inr (.inr (.inl q))), some (.inr (.inr (.inl q'))) => q = q'
  | some (.inr (.inr (.inr (.inl (p, m, as, σ, k))))), some (.inr (.inr (.inr (.inl (p', m', as', σ', k'))))) => (p = p' ∧ m = m' ∧ as = as' ∧ σ = σ') ∧ ∀ q, cq (k q) (k' q)
  | some (.inr (.inr (.inr (.inr (x, l, d))))), some (.inr (.inr (.inr (.inr (x', l', d'))))) => x = x' ∧ cq (rSw x l d) (rSw x l' d')
  | _, _ => False
theorem lq_refl (ls : List (Option MV)) : lq ls ls := ⟨rfl, fun _ _ h => h⟩
theorem cq_refl (c : Cf) : cq c c := ⟨rfl, lq_refl _, rfl⟩
theorem lq_lk {ls ls' : List (Option MV)} (h : lq ls ls') (j : Nat) : (lk ls j).length = (lk ls' j).length ∧ ∀ (i : Nat) (v : MV), ¬ i + 1 = j → (lk ls j)[i]? = some (some v) → (lk ls' j)[i]? = some (some v) := by
  have len : ∀ l : List (Option MV), (lk l j).length = l.length := fun l => by
    unfold lk
    split
    · rfl
    · split <;> simp
  have oth : ∀ (l : List (Option MV)) (i : Nat), ¬ i + 1 = j → (lk l j)[i]? = l[i]? := fun l i hi => by
    unfold lk
    split
    · rfl
    · split
      · rw [List.getElem?_set_ne (by omega)]
      · rfl
  refine ⟨by rw [len, len]; exact h.1, fun i v hi q => ?_⟩
  rw [oth _ _ hi] at q ⊢
  exact h.2 i v q
theorem lk_at {ls ls' : List (Option MV)} (h : lq ls ls') (j i : Nat) (v : MV) (hi : i + 1 = j) (q : (lk ls j)[i]? = some (some v)) : (lk ls' j)[i]? = some (some v) := by
  subst hi
  have a : ls[i]? = some (some v) ∧ ∀ x, v ≠ .inr (.inl x) := by
    unfold lk at q
    simp only at q
    split at q
    · rename_i x hx
      rw [List.getElem?_set] at q
      split at q
      · split at q <;> cases q
      · omega
    · rename_i hn
      exact ⟨q, fun x e => hn x (e ▸ q)⟩
  have b := h.2 i v a.1
  unfold lk
  simp only
  split
  · rename_i x hx
    rw [hx] at b
    cases b
    exact absurd rfl (a.2 x)
  · exact b
theorem lq_lk2 {ls ls' : List (Option MV)} (h : lq ls ls') (j : Nat) : lq (lk ls j) (lk ls' j) := by
  refine ⟨(lq_lk h j).1, fun i v q => ?_⟩
  by_cases hi : i + 1 = j
  · exact lk_at h j i v hi q
  · exact (lq_lk h j).2 i v hi q
theorem lq_set {ls ls' : List (Option MV)} (h : lq ls ls') (j : Nat) (o : Option MV) : lq (ls.set j o) (ls'.set j o) := by
  refine ⟨by simp [h.1], fun i v q => ?_⟩
  rw [List.getElem?_set] at q ⊢
  split at q
  · rename_i e
    rw [if_pos e]
    split at q
    · rename_i l
      rw [if_pos (by rw [← h.1]; exact l)]
      exact q
    · cases q
  · rename_i e
    rw [if_neg e]
    exact h.2 i v q
theorem lq_1 {ls ls' : List (Option MV)} (h : lq ls ls') (j : Nat) (v : MV) : lq (l1 ls j v) (l1 ls' j v) := lq_set (lq_lk2 h j) _ _
theorem lq_2 {ls ls' : List (Option MV)} (h : lq ls ls') (j : Nat) (v : MV) : lq (l2 ls j v) (l2 ls' j v) := lq_set (lq_set (lq_lk2 h j) _ _) _ _
section MONO
variable {tg : Nat → List Ins} {ls ls' : List (Option MV)} {st : List MV} {σ : MS} {r : List Ins}
theorem q_nx (h : lq ls ls') : Aq (aNx r ls st σ) (aNx r ls' st σ) := ⟨rfl, h, rfl⟩
theorem q_br {p : Prop} {d : Decidable p} {r r2 : List Ins} {st st2 : List MV} {σ σ2 : MS} (h : lq ls ls') : Aq (aBr p d (r, ls, st, σ) (r2, ls, st2, σ2)) (aBr p d (r, ls', st, σ) (r2, ls', st2, σ2)) := ⟨rfl, ⟨rfl, h, rfl⟩, rfl, h, rfl⟩
theorem q_bn {p : Prop} {d : Decidable p} {τ : MS} (h : lq ls ls') : Aq (aBr p d (r, ls, st, σ) (nCf τ)) (aBr p d (r, ls', st, σ) (nCf τ)) := ⟨rfl, ⟨rfl, h, rfl⟩, cq_refl _⟩

theorem q_mLdI (h : lq ls ls') (j : Nat) : Aq (mLdI j r ls st σ) (mLdI j r ls' st σ) := by
  unfold mLdI
  split
  · rename_i x hx
    rw [h.2 j _ hx]
    exact q_nx h
  · exact trivial
theorem q_mLdL (h : lq ls ls') (j : Nat) : Aq (mLdL j r ls st σ) (mLdL j r ls' st σ) := by
  unfold mLdL
  split
  · rename_i x hx
    rw [h.2 j _ hx]
    exact q_nx h
  · exact trivial
theorem q_mLdR (h : lq ls ls') (j : Nat) : Aq (mLdR j r ls st σ) (mLdR j r ls' st σ) := by
  unfold mLdR
  split
  · rename_i x hx
    rw [h.2 j _ hx]
    exact q_nx h
  · exact trivial
theorem q_mStI (h : lq ls ls') (j : Nat) : Aq (mStI j r ls st σ) (mStI j r ls' st σ) := by
  unfold mStI
  split
  · exact q_nx (lq_1 h _ _)
  · exact trivial
theorem q_mStR (h : lq ls ls') (j : Nat) : Aq (mStR j r ls st σ) (mStR j r ls' st σ) := by
  unfold mStR
  split
  · exact q_nx (lq_1 h _ _)
  · exact trivial
theorem q_mStL (h : lq ls ls') (j : Nat) : Aq (mStL j r ls st σ) (mStL j r ls' st σ) := by
  unfold mStL
  split
  · exact q_nx (lq_2 h _ _)
  · exact trivial
theorem q_mBI (h : lq ls ls') (f : Int → Int → Int) : Aq (mBI f r ls st σ) (mBI f r ls' st σ) := by
  unfold mBI
  split
  · exact q_nx h
  · exact trivial
theorem q_mBD (h : lq ls ls') (f : Int → Int → Int) : Aq (mBD f r ls st σ) (mBD f r ls' st σ) := by
  unfold mBD
  split
  · exact q_bn h
  · exact trivial
theorem q_mBL (h : lq ls ls') (f : BitVec 64 → BitVec 64 → BitVec 64) : Aq (mBL f r ls st σ) (mBL f r ls' st σ) := by
  unfold mBL
  split
  · exact q_nx h
  · exact trivial
theorem q_mBE (h : lq ls ls') (f : BitVec 64 → BitVec 64 → BitVec 64) : Aq (mBE f r ls st σ) (mBE f r ls' st σ) := by
  unfold mBE
  split
  · exact q_bn h
  · exact trivial
theorem q_mBS (h : lq ls ls') (f : BitVec 64 → Int → BitVec 64) : Aq (mBS f r ls st σ) (mBS f r ls' st σ) := by
  unfold mBS
  split
  · exact q_nx h
  · exact trivial
theorem q_mUI (h : lq ls ls') (f : Int → Int) : Aq (mUI f r ls st σ) (mUI f r ls' st σ) := by
  unfold mUI
  split
  · exact q_nx h
  · exact trivial
theorem q_mALd (h : lq ls ls') (f : Nat) : Aq (mALd f r ls st σ) (mALd f r ls' st σ) := by
  unfold mALd
  split
  · exact q_bn h
  · exact trivial
theorem q_mASt (h : lq ls ls') (f : Nat) : Aq (mASt f r ls st σ) (mASt f r ls' st σ) := by
  unfold mASt
  split
  · exact q_bn h
  · exact trivial
theorem q_mAStR (h : lq ls ls') (f : Nat) : Aq (mAStR f r ls st σ) (mAStR f r ls' st σ) := by
  unfold mAStR
  split
  · exact q_bn h
  · exact trivial
theorem q_mCpy (h : lq ls ls') (f : Nat) : Aq (mCpy f r ls st σ) (mCpy f r ls' st σ) := by
  unfold mCpy
  split
  · exact q_bn h
  · exact trivial
theorem q_mAStL (h : lq ls ls') : Aq (mAStL r ls st σ) (mAStL r ls' st σ) := by
  unfold mAStL
  split
  · exact q_bn h
  · exact trivial
theorem q_mChx (h : lq ls ls') : Aq (mChx r ls st σ) (mChx r ls' st σ) := by
  unfold mChx
  split
  · exact q_bn h
  · exact trivial
theorem q_mGet (h : lq ls ls') (a b k : Nat) : Aq (mGet a b k r ls st σ) (mGet a b k r ls' st σ) := by
  unfold mGet
  split
  · exact q_bn h
  · exact trivial
theorem q_mPut (h : lq ls ls') (a b k : Nat) : Aq (mPut a b k r ls st σ) (mPut a b k r ls' st σ) := by
  unfold mPut
  split
  · split
    · exact q_bn h
    · exact q_bn h
    · exact trivial
  · split
    · exact q_bn h
    · exact trivial
  · split
    · exact q_bn h
    · exact q_bn h
    · exact q_bn h
    · exact trivial
  · exact trivial
theorem q_mCal (h : lq ls ls') (m n ci : Nat) : Aq (mCal m n ci r ls st σ) (mCal m n ci r ls' st σ) := by
  unfold mCal
  split
  · split
    · exact ⟨⟨rfl, rfl, rfl, rfl⟩, fun q => ⟨rfl, h, rfl⟩⟩
    · exact trivial
  · split
    · split
      · exact ⟨⟨rfl, rfl, rfl, rfl⟩, fun q => ⟨rfl, h, rfl⟩⟩
      · exact trivial
    · exact trivial
theorem q_mIf (h : lq ls ls') (c : Jvm.ClassFile.Cond) (x y : Int) (t f : List Ins) (s : List MV) : Aq (mIf c x y (t, ls, s, σ) (f, ls, s, σ)) (mIf c x y (t, ls', s, σ) (f, ls', s, σ)) := by
  cases c <;> exact q_br h
theorem q_mIfL (h : lq ls ls') (c : Jvm.ClassFile.Cond) (x y : BitVec 64) (t f : List Ins) (s : List MV) : Aq (mIfL c x y (t, ls, s, σ) (f, ls, s, σ)) (mIfL c x y (t, ls', s, σ) (f, ls', s, σ)) := by
  cases c <;> exact q_br h
theorem q_mNull (h : lq ls ls') (c : Bool) (t f : List Ins) : Aq (mNull c st ls t f σ) (mNull c st ls' t f σ) := by
  unfold mNull
  split
  · exact q_br h
  · exact trivial
theorem q_mRetI (k : Nat) : Aq (mRetI k st σ) (mRetI k st σ) := by
  unfold mRetI
  split
  · split <;> exact rfl
  · exact trivial
theorem q_sw (h : lq ls ls') (x : Int) (t : List (Int × Nat)) (s : List MV) (a : Nat) : Aq (aSw x (t.map fun q => (q.1, (tg q.2, ls, s, σ))) (tg a, ls, s, σ)) (aSw x (t.map fun q => (q.1, (tg q.2, ls', s, σ))) (tg a, ls', s, σ)) := by
  refine ⟨rfl, ?_⟩
  have e : ∀ l : List (Option MV), rSw x (t.map fun q => (q.1, ((tg q.2, l, s, σ) : Cf))) (tg a, l, s, σ) = (tg (rSw x t a), l, s, σ) := fun l => rSw_map (fun b => ((tg b, l, s, σ) : Cf)) x a t
  show cq (rSw x (t.map fun q => (q.1, ((tg q.2, ls, s, σ) : Cf))) (tg a, ls, s, σ)) (rSw x (t.map fun q => (q.1, ((tg q.2, ls', s, σ) : Cf))) (tg a, ls', s, σ))
  rw [e, e]
  exact ⟨rfl, h, rfl⟩

theorem mstep_q (tg : Nat → List Ins) (code : List Ins) {ls ls' : List (Option MV)} (st : List MV) (σ : MS) (h : lq ls ls') : Aq (mstep tg (code, ls, st, σ)) (mstep tg (code, ls', st, σ)) := by
  match code with
  | [] => exact trivial
  | (i, pc, a, b, k, t) :: r =>
    cases i with
    | iload_n n => exact q_mLdI h _
    | iload n => exact q_mLdI h _
    | lload_n n => exact q_mLdL h _
    | lload n => exact q_mLdL h _
    | aload_n n => exact q_mLdR h _
    | aload n => exact q_mLdR h _
    | istore_n n => exact q_mStI h _
    | istore n => exact q_mStI h _
    | lstore_n n => exact q_mStL h _
    | lstore n => exact q_mStL h _
    | astore_n n => exact q_mStR h _
    | astore n => exact q_mStR h _
    | iinc n d =>
      show Aq (match ls[n]? with
        | some (some (.inl x)) => aNx r (l1 ls n (mI (w32 (x + d)))) st σ
        | _ => none) (match ls'[n]? with
        | some (some (.inl x)) => aNx r (l1 ls' n (mI (w32 (x + d)))) st σ
        | _ => none)
      split
      · rename_i x hx
        rw [h.2 n _ hx]
        exact q_nx (lq_1 h _ _)
      · exact trivial
    | iconst n => exact q_nx h
    | bipush n => exact q_nx h
    | sipush n => exact q_nx h
    | lconst n => exact q_nx h
    | aconst_null => exact q_nx h
    | goto o => exact q_nx h
    | nop => exact q_nx h
    | ldc n => rcases t with _ | ⟨⟨v, u⟩, t⟩
                     · exact trivial
                     · by_cases hk : k = 0
                       · subst hk; exact q_nx h
                       · show Aq (if k = 0 then _ else _) (if k = 0 then _ else _)
                         rw [if_neg hk, if_neg hk]
                         exact q_nx h
    | ldc_w n => rcases t with _ | ⟨⟨v, u⟩, t⟩
                     · exact trivial
                     · by_cases hk : k = 0
                       · subst hk; exact q_nx h
                       · show Aq (if k = 0 then _ else _) (if k = 0 then _ else _)
                         rw [if_neg hk, if_neg hk]
                         exact q_nx h
    | ldc2_w n => rcases t with _ | ⟨⟨v, u⟩, t⟩
                        · exact trivial
                        · exact q_nx h
    | getstatic n => rcases t with _ | ⟨⟨v, u⟩, t⟩
                        · exact trivial
                        · exact q_nx h
    | iadd => exact q_mBI h _
    | isub => exact q_mBI h _
    | imul => exact q_mBI h _
    | iand => exact q_mBI h _
    | ior => exact q_mBI h _
    | ixor => exact q_mBI h _
    | ishl => exact q_mBI h _
    | ishr => exact q_mBI h _
    | idiv => exact q_mBD h _
    | irem => exact q_mBD h _
    | ineg => exact q_mUI h _
    | i2b => exact q_mUI h _
    | i2s => exact q_mUI h _
    | i2c => exact q_mUI h _
    | ladd => exact q_mBL h _
    | lsub => exact q_mBL h _
    | lmul => exact q_mBL h _
    | land => exact q_mBL h _
    | lor => exact q_mBL h _
    | lxor => exact q_mBL h _
    | ldiv => exact q_mBE h _
    | lrem => exact q_mBE h _
    | lshl => exact q_mBS h _
    | lshr => exact q_mBS h _
    | lushr => exact q_mBS h _
    | lneg => (first | exact trivial | exact q_nx h | exact q_bn h | exact q_br h | (rcases st with _ | ⟨v1, t1⟩ <;> first | exact trivial | (rcases v1 with v1 | v1 | v1 <;> (first | exact trivial | exact q_nx h | exact q_bn h | exact q_br h))))
    | i2l => (first | exact trivial | exact q_nx h | exact q_bn h | exact q_br h | (rcases st with _ | ⟨v1, t1⟩ <;> first | exact trivial | (rcases v1 with v1 | v1 | v1 <;> (first | exact trivial | exact q_nx h | exact q_bn h | exact q_br h))))
    | l2i => (first | exact trivial | exact q_nx h | exact q_bn h | exact q_br h | (rcases st with _ | ⟨v1, t1⟩ <;> first | exact trivial | (rcases v1 with v1 | v1 | v1 <;> (first | exact trivial | exact q_nx h | exact q_bn h | exact q_br h))))
    | dup => (first | exact trivial | exact q_nx h | exact q_bn h | exact q_br h | (rcases st with _ | ⟨v1, t1⟩ <;> first | exact trivial | (rcases v1 with v1 | v1 | v1 <;> (first | exact trivial | exact q_nx h | exact q_bn h | exact q_br h))))
    | dup2 => (first | exact trivial | exact q_nx h | exact q_bn h | exact q_br h | (rcases st with _ | ⟨v2, t2⟩ <;> first | exact trivial | (rcases v2 with v2 | v2 | v2 <;> (first | exact trivial | exact q_nx h | exact q_bn h | exact q_br h | (rcases t2 with _ | ⟨v1, t1⟩ <;> first | exact trivial | (rcases v1 with v1 | v1 | v1 <;> (first | exact trivial | exact q_nx h | exact q_bn h | exact q_br h)))))))
    | pop => (first | exact trivial | exact q_nx h | exact q_bn h | exact q_br h | (rcases st with _ | ⟨v1, t1⟩ <;> first | exact trivial | (rcases v1 with v1 | v1 | v1 <;> (first | exact trivial | exact q_nx h | exact q_bn h | exact q_br h))))
    | pop2 => (first | exact trivial | exact q_nx h | exact q_bn h | exact q_br h | (rcases st with _ | ⟨v1, t1⟩ <;> first | exact trivial | (rcases v1 with v1 | v1 | v1 <;> (first | exact trivial | exact q_nx h | exact q_bn h | exact q_br h))))
    | dup_x1 => (first | exact trivial | exact q_nx h | exact q_bn h | exact q_br h | (rcases st with _ | ⟨v2, t2⟩ <;> first | exact trivial | (rcases v2 with v2 | v2 | v2 <;> (first | exact trivial | exact q_nx h | exact q_bn h | exact q_br h | (rcases t2 with _ | ⟨v1, t1⟩ <;> first | exact trivial | (rcases v1 with v1 | v1 | v1 <;> (first | exact trivial | exact q_nx h | exact q_bn h | exact q_br h)))))))
    | dup2_x1 => (first | exact trivial | exact q_nx h | exact q_bn h | exact q_br h | (rcases st with _ | ⟨v2, t2⟩ <;> first | exact trivial | (rcases v2 with v2 | v2 | v2 <;> (first | exact trivial | exact q_nx h | exact q_bn h | exact q_br h | (rcases t2 with _ | ⟨v1, t1⟩ <;> first | exact trivial | (rcases v1 with v1 | v1 | v1 <;> (first | exact trivial | exact q_nx h | exact q_bn h | exact q_br h)))))))
    | lcmp =>
      rcases r with _ | ⟨⟨j, pc2, a2, b2', k2, t2⟩, r2⟩
      · exact trivial
      · cases j <;> first | exact trivial | (rcases st with _ | ⟨v, s⟩ <;> first | exact trivial | (rcases v with v | v | v <;> first | exact trivial | (rcases s with _ | ⟨u, s⟩ <;> first | exact trivial | (rcases u with u | u | u <;> first | exact trivial | exact q_mIfL h _ _ _ _ _ _))))
    | ifCond cc o => (rcases st with _ | ⟨v, s⟩ <;> first | exact trivial | (rcases v with v | v | v <;> first | exact trivial | exact q_mIf h _ _ _ _ _ _))
    | if_icmp cc o => (rcases st with _ | ⟨v, s⟩ <;> first | exact trivial | (rcases v with v | v | v <;> first | exact trivial | (rcases s with _ | ⟨u, s⟩ <;> first | exact trivial | (rcases u with u | u | u <;> first | exact trivial | exact q_mIf h _ _ _ _ _ _))))
    | if_acmp cc o => (rcases st with _ | ⟨v, s⟩ <;> first | exact trivial | (rcases v with v | v | v <;> first | exact trivial | (rcases s with _ | ⟨u, s⟩ <;> first | exact trivial | (rcases u with u | u | u <;> first | exact trivial | (rcases k with _ | k <;> first | exact q_bn h | (cases cc <;> exact q_br h))))))
    | ifnull o => exact q_mNull h _ _ _
    | ifnonnull o => exact q_mNull h _ _ _
    | tableswitch o1 o2 o3 o4 => (rcases st with _ | ⟨v, s⟩ <;> first | exact trivial | (rcases v with v | v | v <;> first | exact trivial | exact q_sw h _ _ _ _))
    | lookupswitch o1 o2 => (rcases st with _ | ⟨v, s⟩ <;> first | exact trivial | (rcases v with v | v | v <;> first | exact trivial | exact q_sw h _ _ _ _))
    | getfield o => exact q_mGet h _ _ _
    | putfield o => exact q_mPut h _ _ _
    | iaload => exact q_mALd h _
    | baload => exact q_mALd h _
    | laload => exact q_mALd h _
    | aaload => exact q_mALd h _
    | iastore => exact q_mASt h _
    | bastore => exact q_mASt h _
    | lastore => exact q_mAStL h
    | aastore => exact q_mAStR h _
    | arraylength => (rcases st with _ | ⟨v, s⟩ <;> first | exact trivial | (rcases v with v | v | v <;> first | exact trivial | exact q_bn h))
    | newarray o => (rcases st with _ | ⟨v, s⟩ <;> first | exact trivial | (rcases v with v | v | v <;> first | exact trivial | (by_cases hv : v = 4800
      · subst hv; exact q_nx h
      · show Aq (if v = 4800 then _ else _) (if v = 4800 then _ else _)
        rw [if_neg hv, if_neg hv]
        exact trivial)))
    | new o =>
      show Aq (match r with
        | (.dup, _) :: (.invokespecial _, _) :: r2 => if a = 8 ∧ stW st ≤ 7 then aNx r2 ls (mR (some (nC σ)) :: st) (alS σ) else none
        | _ => none) (match r with
        | (.dup, _) :: (.invokespecial _, _) :: r2 => if a = 8 ∧ stW st ≤ 7 then aNx r2 ls' (mR (some (nC σ)) :: st) (alS σ) else none
        | _ => none)
      split
      · split
        · exact q_nx h
        · exact trivial
      · exact trivial
    | invokevirtual o => rcases t with _ | ⟨v, t⟩
                      · exact q_mCal h _ _ _
                      · exact trivial
    | invokestatic o =>
      show Aq (match t with
        | [] => mCal a b 99 r ls st σ
        | (1, _) :: _ => if stW st ≤ 13 then mCpy a r ls st σ else none
        | (2, _) :: _ => mChx r ls st σ
        | _ => none) (match t with
        | [] => mCal a b 99 r ls' st σ
        | (1, _) :: _ => if stW st ≤ 13 then mCpy a r ls' st σ else none
        | (2, _) :: _ => mChx r ls' st σ
        | _ => none)
      split
      · exact q_mCal h _ _ _
      · split
        · exact q_mCpy h _
        · exact trivial
      · exact q_mChx h
      · exact trivial
    | ireturn => exact q_mRetI _
    | lreturn => (rcases st with _ | ⟨v, s⟩ <;> first | exact trivial | (rcases v with v | v | v <;> first | exact trivial | (rcases s with _ | ⟨u, s⟩ <;> first | exact trivial | exact rfl)))
    | areturn => (rcases st with _ | ⟨v, s⟩ <;> first | exact trivial | (rcases v with v | v | v <;> first | exact trivial | (rcases s with _ | ⟨u, s⟩ <;> first | exact trivial | exact rfl)))
    | return_ => (rcases st with _ | ⟨v, s⟩ <;> first | exact trivial | exact rfl)
    | _ => exact trivial
end MONO
theorem run_q : ∀ (n : Nat) (tg : Nat → List Ins) (c c' : Cf) (r : Rs), cq c c' → run n tg c = some r → run n tg c' = some r := by
  intro n
  induction n with
  | zero => intro tg c c' r _ h; cases h
  | succ n ih =>
    intro tg c c' r hq h
    have a : Aq (mstep tg c) (mstep tg c') := by
      obtain ⟨c1, c2, c3⟩ := c
      obtain ⟨d1, d2, d3⟩ := c'
      obtain ⟨e1, e2, e3⟩ := hq
      cases e1
      cases e3
      exact mstep_q tg c1 c3.1 c3.2 e2
    rw [run] at h ⊢
    generalize mstep tg c' = A' at a
    split at h
    · cases h
    · rename_i c1 hm
      rw [hm] at a
      match A', a with
      | some (.inl c2), a => exact ih _ _ _ _ a h
    · rename_i p x y hm
      rw [hm] at a
      match A', a with
      | some (.inr (.inl (p', x', y'))), a =>
        obtain ⟨e, a1, a2⟩ := a
        subst e
        by_cases hp : p.1
        · simp only [if_pos hp] at h ⊢
          exact ih _ _ _ _ a1 h
        · simp only [if_neg hp] at h ⊢
          exact ih _ _ _ _ a2 h
    · rename_i p q hm
      rw [hm] at a
      match A', a with
      | some (.inr (.inr (.inl q'))), a =>
        cases a
        exact h
    · rename_i p m as σ k hm
      rw [hm] at a
      match A', a with
      | some (.inr (.inr (.inr (.inl (p', m', as', σ', k'))))), a =>
        obtain ⟨⟨e1, e2, e3, e4⟩, a⟩ := a
        subst e1 e2 e3 e4
        by_cases hp : p.1
        · simp only [if_pos hp] at h ⊢
          obtain ⟨q, h1, h2⟩ := Option.bind_eq_some_iff.mp h
          exact Option.bind_eq_some_iff.mpr ⟨q, h1, ih _ _ _ _ (a q) h2⟩
        · simp only [if_neg hp] at h
          cases h
    · rename_i x l d hm
      rw [hm] at a
      match A', a with
      | some (.inr (.inr (.inr (.inr (x', l', d'))))), a =>
        obtain ⟨e, a⟩ := a
        subst e
        exact ih _ _ _ _ a h
theorem RR_q {tg : Nat → List Ins} {B : List Ins} {ls ls' : List (Option MV)} {st : List MV} {σ : MS} {r : Rs} (h : RR tg (B, ls, st, σ) = some r) (hq : lq ls ls') : RR tg (B, ls', st, σ) = some r := by
  obtain ⟨n, hn⟩ := RR_ex h
  exact RR_of (run_q n tg _ _ r ⟨rfl, hq, rfl⟩ hn)
theorem lq_cons {a b : Option MV} {l l' : List (Option MV)} (h : a = none ∨ a = b) (t : lq l l') : lq (a :: l) (b :: l') := by
  refine ⟨by simp [t.1], fun j v q => ?_⟩
  cases j with
  | zero =>
    rcases h with h | h
    · rw [h] at q; cases q
    · rw [← h]; exact q
  | succ j => exact t.2 j v q
theorem lq_nil : lq [] [] := ⟨rfl, fun _ _ h => by cases h⟩
-- FILE 21.b2
/-! ===== numbers of the judge: what they are, in either store ===== -/
theorem u2_same {α : Type} (f : Nat → Nat → α) (k s : Nat) (a b : α) : u2 (u2 f k s a) k s b = u2 f k s b := by
  funext x y
  unfold u2
  split <;> rfl
theorem u2_comm {α : Type} (f : Nat → Nat → α) {k s k' s' : Nat} (a b : α) (h : ¬ (k' = k ∧ s' = s)) : u2 (u2 f k s a) k' s' b = u2 (u2 f k' s' b) k s a := by
  funext x y
  unfold u2
  by_cases h1 : x = k ∧ y = s
  · by_cases h2 : x = k' ∧ y = s'
    · exact absurd ⟨h2.1.symm.trans h1.1, h2.2.symm.trans h1.2⟩ h
    · rw [if_neg h2, if_pos h1, if_pos h1]
  · by_cases h2 : x = k' ∧ y = s'
    · rw [if_pos h2, if_neg h1, if_pos h2]
    · rw [if_neg h2, if_neg h1, if_neg h1, if_neg h2]
theorem u2_eta {α : Type} (f : Nat → Nat → α) (k s : Nat) : u2 f k s (f k s) = f := by
  funext x y
  unfold u2
  split
  · rename_i h; rw [h.1, h.2]
  · rfl
theorem sL_same (σ : MS) (k s : Nat) (a b : BitVec 64) : sL (sL σ k s a) k s b = sL σ k s b := by
  unfold sL
  rw [u2_same]
theorem sI_same (σ : MS) (k s : Nat) (a b : Int) : sI (sI σ k s a) k s b = sI σ k s b := by
  unfold sI
  rw [u2_same]
theorem sL_comm {σ : MS} {k s k' s' : Nat} {a b : BitVec 64} (h : ¬ (k' = k ∧ s' = s)) : sL (sL σ k s a) k' s' b = sL (sL σ k' s' b) k s a := by
  unfold sL
  rw [u2_comm _ _ _ h]
theorem sI_comm {σ : MS} {k s k' s' : Nat} {a b : Int} (h : ¬ (k' = k ∧ s' = s)) : sI (sI σ k s a) k' s' b = sI (sI σ k' s' b) k s a := by
  unfold sI
  rw [u2_comm _ _ _ h]
theorem sL_eta (σ : MS) (k s : Nat) : sL σ k s (gL σ k s) = σ := by
  unfold sL gL
  rw [u2_eta]
theorem sI_eta (σ : MS) (k s : Nat) : sI σ k s (gI σ k s) = σ := by
  unfold sI gI
  rw [u2_eta]
theorem sI_sL (σ : MS) (k s k' s' : Nat) (a : BitVec 64) (b : Int) : sI (sL σ k s a) k' s' b = sL (sI σ k' s' b) k s a := rfl
theorem aoK {σ : MS} {c k n : Nat} (h : kd σ k = (20 + c, n)) : ao σ c (some k) = True := by
  refine eq_true ⟨rfl, ?_⟩
  show (kd σ k).1 = _
  rw [h]
/-- the reference's number at a place -/
def rNv (σ : MS) (i : Nat) : N6 := (gL σ 112 i, gL σ 113 i, gL σ 114 i, gL σ 115 i, gL σ 116 i, gL σ 117 i)
def wN (σ : MS) (i : Nat) (n : N6) : MS := sL (sL (sL (sL (sL (sL σ 112 i n.1) 113 i n.2.1) 114 i n.2.2.1) 115 i n.2.2.2.1) 116 i n.2.2.2.2.1) 117 i n.2.2.2.2.2
/-- the class's number, an object -/
def rC (σ : MS) (k : Nat) : N6 := (gL σ k 0, gL σ k 1, gL σ k 2, gL σ k 3, gL σ k 4, gL σ k 5)
def wC (σ : MS) (k : Nat) (n : N6) : MS := sL (sL (sL (sL (sL (sL σ k 0 n.1) k 1 n.2.1) k 2 n.2.2.1) k 3 n.2.2.2.1) k 4 n.2.2.2.2.1) k 5 n.2.2.2.2.2
theorem wN_eta (σ : MS) (i : Nat) : wN σ i (rNv σ i) = σ := by
  unfold wN rNv
  have e : ∀ k, sL σ k i (gL σ k i) = σ := fun k => sL_eta σ k i
  show sL (sL (sL (sL (sL (sL σ 112 i (gL σ 112 i)) 113 i (gL σ 113 i)) 114 i (gL σ 114 i)) 115 i (gL σ 115 i)) 116 i (gL σ 116 i)) 117 i (gL σ 117 i) = σ
  rw [e, e, e, e, e, e]
theorem wC_eta (σ : MS) (k : Nat) : wC σ k (rC σ k) = σ := by
  unfold wC rC
  show sL (sL (sL (sL (sL (sL σ k 0 (gL σ k 0)) k 1 (gL σ k 1)) k 2 (gL σ k 2)) k 3 (gL σ k 3)) k 4 (gL σ k 4)) k 5 (gL σ k 5) = σ
  rw [sL_eta, sL_eta, sL_eta, sL_eta, sL_eta, sL_eta]
section LENS
variable {σ : MS} {i : Nat} {n : N6} {x : BitVec 64}
theorem wN0 : sL (wN σ i n) 112 i x = wN σ i (x, n.2) := by
  unfold wN
  rw [sL_comm (by omega), sL_comm (k := 116) (by omega), sL_comm (k := 115) (by omega), sL_comm (k := 114) (by omega), sL_comm (k := 113) (by omega), sL_same]
theorem wN1 : sL (wN σ i n) 113 i x = wN σ i (n.1, x, n.2.2) := by
  unfold wN
  rw [sL_comm (by omega), sL_comm (k := 116) (by omega), sL_comm (k := 115) (by omega), sL_comm (k := 114) (by omega), sL_same]
theorem wN2 : sL (wN σ i n) 114 i x = wN σ i (n.1, n.2.1, x, n.2.2.2) := by
  unfold wN
  rw [sL_comm (by omega), sL_comm (k := 116) (by omega), sL_comm (k := 115) (by omega), sL_same]
theorem wN3 : sL (wN σ i n) 115 i x = wN σ i (n.1, n.2.1, n.2.2.1, x, n.2.2.2.2) := by
  unfold wN
  rw [sL_comm (by omega), sL_comm (k := 116) (by omega), sL_same]
theorem wN4 : sL (wN σ i n) 116 i x = wN σ i (n.1, n.2.1, n.2.2.1, n.2.2.2.1, x, n.2.2.2.2.2) := by
  unfold wN
  rw [sL_comm (by omega), sL_same]
theorem wN5 : sL (wN σ i n) 117 i x = wN σ i (n.1, n.2.1, n.2.2.1, n.2.2.2.1, n.2.2.2.2.1, x) := by
  unfold wN
  rw [sL_same]
theorem gN0 : gL (wN σ i n) 112 i = n.1 := by simp [wN, gL_sL]
theorem gN1 : gL (wN σ i n) 113 i = n.2.1 := by simp [wN, gL_sL]
theorem gN2 : gL (wN σ i n) 114 i = n.2.2.1 := by simp [wN, gL_sL]
theorem gN3 : gL (wN σ i n) 115 i = n.2.2.2.1 := by simp [wN, gL_sL]
theorem gN4 : gL (wN σ i n) 116 i = n.2.2.2.2.1 := by simp [wN, gL_sL]
theorem gN5 : gL (wN σ i n) 117 i = n.2.2.2.2.2 := by simp [wN, gL_sL]
theorem rN_wN {j : Nat} : rNv (wN σ i n) j = if j = i then n else rNv σ j := by
  by_cases h : j = i
  · subst h
    rw [if_pos rfl]
    unfold rNv
    rw [gN0, gN1, gN2, gN3, gN4, gN5]
  · rw [if_neg h]
    simp [rNv, wN, gL_sL, h]
theorem wN_wN {m : N6} : wN (wN σ i n) i m = wN σ i m := by
  show sL (sL (sL (sL (sL (sL (wN σ i n) 112 i m.1) 113 i m.2.1) 114 i m.2.2.1) 115 i m.2.2.2.1) 116 i m.2.2.2.2.1) 117 i m.2.2.2.2.2 = wN σ i m
  rw [wN0, wN1, wN2, wN3, wN4, wN5]
theorem gI_wN {k s : Nat} : gI (wN σ i n) k s = gI σ k s := rfl
theorem gR_wN {k s : Nat} : gR (wN σ i n) k s = gR σ k s := rfl
theorem kd_wN {k : Nat} : kd (wN σ i n) k = kd σ k := rfl
theorem ab_wN {ty k : Nat} {j : Int} : ab (wN σ i n) ty k j = ab σ ty k j := rfl
theorem ao_wN {c : Nat} {y : Option Nat} : ao (wN σ i n) c y = ao σ c y := rfl
theorem wC0 : sL (wC σ i n) i 0 x = wC σ i (x, n.2) := by
  unfold wC
  rw [sL_comm (by omega), sL_comm (s := 4) (by omega), sL_comm (s := 3) (by omega), sL_comm (s := 2) (by omega), sL_comm (s := 1) (by omega), sL_same]
theorem wC1 : sL (wC σ i n) i 1 x = wC σ i (n.1, x, n.2.2) := by
  unfold wC
  rw [sL_comm (by omega), sL_comm (s := 4) (by omega), sL_comm (s := 3) (by omega), sL_comm (s := 2) (by omega), sL_same]
theorem wC2 : sL (wC σ i n) i 2 x = wC σ i (n.1, n.2.1, x, n.2.2.2) := by
  unfold wC
  rw [sL_comm (by omega), sL_comm (s := 4) (by omega), sL_comm (s := 3) (by omega), sL_same]
theorem wC3 : sL (wC σ i n) i 3 x = wC σ i (n.1, n.2.1, n.2.2.1, x, n.2.2.2.2) := by
  unfold wC
  rw [sL_comm (by omega), sL_comm (s := 4) (by omega), sL_same]
theorem wC4 : sL (wC σ i n) i 4 x = wC σ i (n.1, n.2.1, n.2.2.1, n.2.2.2.1, x, n.2.2.2.2.2) := by
  unfold wC
  rw [sL_comm (by omega), sL_same]
theorem wC5 : sL (wC σ i n) i 5 x = wC σ i (n.1, n.2.1, n.2.2.1, n.2.2.2.1, n.2.2.2.2.1, x) := by
  unfold wC
  rw [sL_same]
theorem gC0 : gL (wC σ i n) i 0 = n.1 := by simp [wC, gL_sL]
theorem gC1 : gL (wC σ i n) i 1 = n.2.1 := by simp [wC, gL_sL]
theorem gC2 : gL (wC σ i n) i 2 = n.2.2.1 := by simp [wC, gL_sL]
theorem gC3 : gL (wC σ i n) i 3 = n.2.2.2.1 := by simp [wC, gL_sL]
theorem gC4 : gL (wC σ i n) i 4 = n.2.2.2.2.1 := by simp [wC, gL_sL]
theorem gC5 : gL (wC σ i n) i 5 = n.2.2.2.2.2 := by simp [wC, gL_sL]
theorem gC_ne {k s : Nat} (h : ¬ k = i) : gL (wC σ i n) k s = gL σ k s := by simp [wC, gL_sL, h]
theorem rC_wC {j : Nat} : rC (wC σ i n) j = if j = i then n else rC σ j := by
  by_cases h : j = i
  · subst h
    rw [if_pos rfl]
    unfold rC
    rw [gC0, gC1, gC2, gC3, gC4, gC5]
  · rw [if_neg h]
    unfold rC
    rw [gC_ne h, gC_ne h, gC_ne h, gC_ne h, gC_ne h, gC_ne h]
theorem wC_wC {m : N6} : wC (wC σ i n) i m = wC σ i m := by
  show sL (sL (sL (sL (sL (sL (wC σ i n) i 0 m.1) i 1 m.2.1) i 2 m.2.2.1) i 3 m.2.2.2.1) i 4 m.2.2.2.2.1) i 5 m.2.2.2.2.2 = wC σ i m
  rw [wC0, wC1, wC2, wC3, wC4, wC5]
theorem gI_wC {k s : Nat} : gI (wC σ i n) k s = gI σ k s := rfl
theorem gR_wC {k s : Nat} : gR (wC σ i n) k s = gR σ k s := rfl
theorem kd_wC {k : Nat} : kd (wC σ i n) k = kd σ k := rfl
theorem ab_wC {ty k : Nat} {j : Int} : ab (wC σ i n) ty k j = ab σ ty k j := rfl
theorem ao_wC {c : Nat} {y : Option Nat} : ao (wC σ i n) c y = ao σ c y := rfl
end LENS
theorem ite_wC {c : Prop} {d : Decidable c} {σ : MS} {i : Nat} {a b : N6} : (@ite MS c d (wC σ i a) (wC σ i b)) = wC σ i (@ite _ c d a b) := by
  split <;> rfl
/-! ===== small numbers ===== -/
theorem w32_i {x : Int} (h0 : -2147483648 ≤ x) (h1 : x < 2147483648) : w32 x = x := w32_id (by unfold inR; omega)
theorem w8_i {x : Int} (h0 : -128 ≤ x) (h1 : x < 128) : w8 x = x := by
  unfold w8
  rw [Int.bmod_def]
  omega
theorem iL_m1 : iL (-1) = cAll := by decide
theorem iL_F : iL 4294967295 = cF := by decide
theorem iL_min : iL (-9223372036854775808) = cMin := by decide
theorem iL_max : iL 9223372036854775807 = cMax := by decide
theorem iL_0 : iL 0 = 0#64 := rfl
theorem iL_1 : iL 1 = 1#64 := rfl
theorem xor_all (x : B64) : x ^^^ cAll = ~~~ x := by
  rw [BitVec.xor_comm]
  exact BitVec.allOnes_xor
theorem t0 : (0#64).toInt = 0 := rfl
theorem lUsh_k (x : B64) {n : Nat} (h : n < 64) : lUsh x (n : Int) = x >>> n := by
  unfold lUsh
  rw [show (((n : Int) % 64).toNat) = n by omega]
theorem lShl_k (x : B64) {n : Nat} (h : n < 64) : lShl x (n : Int) = x <<< n := by
  unfold lShl
  rw [show (((n : Int) % 64).toNat) = n by omega]
theorem lShr_k (x : B64) {n : Nat} (h : n < 64) : lShr x (n : Int) = x.sshiftRight n := by
  unfold lShr
  rw [show (((n : Int) % 64).toNat) = n by omega]
theorem b2_n' {p : Prop} {d : Decidable p} : (¬ @b2 p d = 0) = p := by
  unfold b2
  by_cases h : p <;> simp [h]
theorem b2_0' {p : Prop} {d : Decidable p} : (@b2 p d = 0) = ¬ p := by
  unfold b2
  by_cases h : p <;> simp [h]
theorem b2_1' {p : Prop} {d : Decidable p} : (@b2 p d = 1) = p := by
  unfold b2
  by_cases h : p <;> simp [h]
theorem bl_b2 {p : Prop} {d : Decidable p} : bl (@b2 p d) = True := by
  unfold b2 bl
  split <;> simp
theorem b2_le {p : Prop} {d : Decidable p} : 0 ≤ @b2 p d ∧ @b2 p d ≤ 1 := by
  unfold b2
  split <;> omega
theorem ite_b2 {p : Prop} {d : Decidable p} : (if ¬ p then (0 : Int) else 1) = @b2 p d := by
  unfold b2
  by_cases h : p <;> simp [h]
theorem ite_b2' {p : Prop} {d : Decidable p} : (if ¬ p then (1 : Int) else 0) = b2 (¬ p) := by
  unfold b2
  rfl
-- FILE 21a.can
/-! ===== VALUES that are NUMBERS have nothing else ===== -/
def canV (v : VL) : Prop := (vk v = 1 → v = numV (vn v)) ∧ (vk v = 0 → v = bytV (vr v) ∧ 0 ≤ vr v ∧ vr v ≤ 255) ∧ (vk v = 2 ∨ vk v = 3 ∨ vk v = 4 ∨ vk v = 6 ∨ vk v = 8 ∨ vk v = 10 → vn v = cstN 0#64) ∧ (vk v = 2 ∨ vk v = 4 ∨ vk v = 6 ∨ vk v = 8 ∨ vk v = 10 → vo v = 0) ∧ (¬ vk v = 0 → ¬ vk v = 7 → vr v = 0) ∧ (vk v = 7 → 0 ≤ vr v)
def canS (S : ST) : Prop := ∀ k : Nat, k < 26 * sF S → canV (sV S k)
theorem can_num (n : N6) : canV (numV n) := by
  have k1 : vk (numV n) = 1 := rfl
  refine ⟨fun _ => rfl, fun k => ?_, fun k => ?_, fun k => ?_, fun _ _ => rfl, fun k => ?_⟩ <;> (exfalso; omega)
theorem can_byt {r : Int} (h : 0 ≤ r ∧ r ≤ 255) : canV (bytV r) := by
  have k0 : vk (bytV r) = 0 := rfl
  refine ⟨fun k => ?_, fun _ => ⟨rfl, h⟩, fun k => ?_, fun k => ?_, fun k => absurd k0 k, fun k => ?_⟩ <;> (exfalso; omega)
theorem can_uns : canV unsV := can_byt (r := 0) ⟨by decide, by decide⟩
theorem can_mk {k w t : Int} (h : ¬ k = 1 ∧ ¬ k = 0) : canV (mkV k w t) := by
  have kk : vk (mkV k w t) = k := rfl
  refine ⟨fun e => ?_, fun e => ?_, fun _ => rfl, fun _ => rfl, fun _ _ => rfl, fun _ => Int.le_refl _⟩ <;> (exfalso; omega)
section CN
variable {E : EV} {S : ST} {t : Int}
theorem can_w (h : canS S) {r : Nat} {v : VL} (hv : canV v) : canS (wV S r v) := fun k hk => by
  show canV (if k = 26 * (sF S - 1) + r then v else sV S k)
  split
  · exact hv
  · exact h k hk
theorem can_r (h : canS S) (hF : 1 ≤ sF S) {r : Nat} (hr : r ≤ 10) : canV (rgV S r) := by
  unfold rgV
  split
  · exact can_mk (by decide)
  · exact h _ (by omega)
theorem can_all (h : canS S) {g : VL → VL} (hg : ∀ v, canV v → canV (g v)) : canS (allV S g) := fun k hk => by
  have hk : k < 26 * sF S := hk
  show canV (if k < 26 * sF S then g (sV S k) else sV S k)
  rw [if_pos hk]
  exact hg _ (h k hk)
theorem or_lt (p : Nat → Bool) : ∀ (l : List Nat) (a : Nat), (∀ i ∈ l, i < 8) → a < 256 → l.foldl (fun (a : Nat) i => if p i = true then a ||| 1 <<< i else a) a < 256 := by
  intro l
  induction l with
  | nil => intro a _ h; exact h
  | cons i l ih =>
    intro a hl h
    rw [List.foldl_cons]
    refine ih _ (fun j hj => hl j (List.mem_cons_of_mem _ hj)) ?_
    have hi := hl i (List.mem_cons_self ..)
    split
    · have : 1 <<< i < 2 ^ 8 := by
        rw [Nat.shiftLeft_eq, Nat.one_mul]
        exact Nat.pow_lt_pow_right (by omega) (by omega)
      exact Nat.or_lt_two_pow (n := 8) h this
    · exact h
theorem can_put (h : canS S) {f b n k : Nat} : canS (putB S f b n k) := fun j hj => by
  have old := h j hj
  show canV (if 26 * f + 10 + b / 8 ≤ j ∧ j ≤ 26 * f + 10 + (b + n - 1) / 8 ∧ 0 < n then _ else sV S j)
  split
  · have u : ∃ r : Int, (0 ≤ r ∧ r ≤ 255) ∧ unpV (sV S j) = bytV r := by
      unfold unpV
      split
      · rename_i k0
        exact ⟨vr (sV S j), (old.2.1 k0).2, (old.2.1 k0).1⟩
      · refine ⟨_, ?_, rfl⟩
        split <;> omega
    obtain ⟨r, r1, r2⟩ := u
    rw [r2]
    have lt := or_lt (fun i => decide (b ≤ 8 * (j - (26 * f + 10)) + i ∧ 8 * (j - (26 * f + 10)) + i < b + k)) (List.range 8) r.toNat (fun i hi => List.mem_range.mp hi) (by omega)
    simp only [decide_eq_true_eq] at lt
    refine can_byt ⟨?_, ?_⟩
    · show (0 : Int) ≤ (((List.range 8).foldl (fun (a : Nat) i => if b ≤ 8 * (j - (26 * f + 10)) + i ∧ 8 * (j - (26 * f + 10)) + i < b + k then a ||| 1 <<< i else a) r.toNat : Nat) : Int)
      omega
    · show (((List.range 8).foldl (fun (a : Nat) i => if b ≤ 8 * (j - (26 * f + 10)) + i ∧ 8 * (j - (26 * f + 10)) + i < b + k then a ||| 1 <<< i else a) r.toNat : Nat) : Int) ≤ 255
      omega
  · exact old
theorem can_becZ (h : canS S) {T k : Int} : canS (becZ S T k) := by
  have a : canS (allV S (zerV T)) := can_all h fun v hv => by
    unfold zerV
    split
    · exact can_num _
    · exact hv
  unfold becZ
  split
  · exact a
  · exact a
theorem can_plc (h : canS S) {T : Int} : canS (allV S (plcV T)) := can_all h fun v hv => by
  unfold plcV
  split
  · refine can_mk ?_
    split <;> decide
  · exact hv
theorem can_rch (h : canS S) {T n : Int} : canS (allV S (rchV T n)) := can_all h fun v hv => by
  unfold rchV
  split
  · rename_i c
    have k7 : vk (vk v, vn v, vo v, vw v, n, vt v) = 7 := c.1
    have o := hv.2.2.2.2.2 c.1
    refine ⟨fun e => ?_, fun e => ?_, fun e => ?_, fun e => ?_, fun _ e => absurd k7 e, fun _ => ?_⟩
    · exfalso; omega
    · exfalso; omega
    · exfalso; omega
    · exfalso; omega
    · show 0 ≤ n
      omega
  · exact hv
theorem can_unsA (h : canS S) : canS (unsA S) := fun k hk => by
  show canV (if 26 * (sF S - 1) + 1 ≤ k ∧ k ≤ 26 * (sF S - 1) + 5 then unsV else sV S k)
  split
  · exact can_uns
  · exact h k hk
theorem can_shf {p : VL} {n : N6} {c t : Int} (hm : mvs p) (hp : canV p) : canV (shfV p n c t).2.1 := by
  obtain ⟨h1, h2, h3, h4, h5, h6⟩ := hp
  have km : ¬ vk p = 0 ∧ ¬ vk p = 1 ∧ ¬ (vk p = 2 ∨ vk p = 4 ∨ vk p = 6 ∨ vk p = 8 ∨ vk p = 10) := by rcases hm with k | k | k | k <;> omega
  unfold shfV
  split
  · generalize (if c = 0 then jV n else - jV n) = d
    split
    · exact ⟨h1, h2, h3, h4, h5, h6⟩
    · exact ⟨fun e => absurd e km.2.1, fun e => absurd e km.1, h3, fun e => absurd e km.2.2, h5, h6⟩
  · split
    · exact ⟨h1, h2, h3, h4, h5, h6⟩
    · rename_i q
      have k3 : ¬ vk p = 3 := fun e => q (Or.inr e)
      have kn : ¬ (vk p = 2 ∨ vk p = 3 ∨ vk p = 4 ∨ vk p = 6 ∨ vk p = 8 ∨ vk p = 10) := by rcases hm with k | k | k | k <;> omega
      split
      · exact ⟨h1, h2, h3, h4, h5, h6⟩
      · split
        · exact ⟨fun e => absurd e km.2.1, fun e => absurd e km.1, fun e => absurd e kn, fun e => absurd e km.2.2, fun _ _ => rfl, fun _ => Int.le_refl _⟩
        · exact ⟨fun e => absurd e km.2.1, fun e => absurd e km.1, fun e => absurd e kn, fun e => absurd e km.2.2, h5, h6⟩
theorem can_rgt (h : canS S) (hF : 1 ≤ sF S) {w : B64} (hr : rgt w → fS w ≤ 10) : canV (rgtV S w) := by
  unfold rgtV
  split
  · rename_i r
    exact can_r h hF (sR_10 (hr r))
  · exact can_num _
theorem can_alu (h : canS S) (hF : 1 ≤ sF S) {w : B64} (hd : fD w ≤ 9) (hr : rgt w → ¬ fC w = 208 → ¬ fC w = 128 → fS w ≤ 10) : canV (aluV S w t).2.1 := by
  have hx := can_r h hF (r := dR w) (Nat.le_of_lt (dR_9 hd))
  have u : canV unsV := can_uns
  unfold aluV
  split
  · split
    · exact u
    · exact can_num _
  · rename_i c1
    split
    · exact u
    · split
      · exact u
      · split
        · have hy : canV (rgtV S w) := can_rgt h hF fun r => hr r c1 (by omega)
          unfold movV
          split
          · exact hy
          · split
            · exact hy
            · split
              · exact can_num _
              · split
                · exact can_num _
                · exact can_num _
        · split
          · split
            · exact u
            · split
              · exact can_num _
              · exact can_num _
          · rename_i c2
            have hy : canV (rgtV S w) := can_rgt h hF fun r => hr r c1 c2
            split
            · rename_i q
              exact can_shf q.2.2.1 hx
            · split
              · rename_i q
                exact can_shf q.2.2.2 hy
              · split
                · exact u
                · split
                  · exact can_num _
                  · exact can_num _
theorem can_lod (h : canS S) (ho : okS E t S) {w : B64} (hs : fS w ≤ 10) (hf : (lodV E S w).1 = 0) : canV (lodV E S w).2 := by
  have ox := rV_ok ho (r := sRr w) (sR_10 hs)
  revert hf
  unfold lodV
  split
  · intro hf; exfalso; have hf : (3 : Int) = 0 := hf; omega
  · split
    · split
      · intro hf; exfalso; have hf : (9 : Int) = 0 := hf; omega
      · split
        · intro _
          show canV (mkV (if fO w = 0 then 7 else 8) 0 0)
          refine can_mk ?_
          split <;> decide
        · intro _; exact can_num _
    · split
      · rename_i q; intro hf; exact absurd hf q
      · split
        · intro hf; exfalso; have hf : (5 : Int) = 0 := hf; omega
        · rename_i c4
          split
          · rename_i c5
            intro _
            have v3 := ox.2.2.1 c5.1
            have rm : -128 ≤ vo (rgV S (sRr w)) + fO w ∧ vo (rgV S (sRr w)) + fO w ≤ -(bytN w : Int) := by
              have := Decidable.not_not.mp c4
              unfold room at this
              rwa [if_pos c5.1] at this
            have F := ho.1
            exact h _ (by omega)
          · split
            · intro hf; exfalso; have hf : (6 : Int) = 0 := hf; omega
            · split
              · intro _; exact can_num _
              · intro _; exact can_num _
theorem can_sto (h : canS S) (hF : 1 ≤ sF S) {w : B64} (hs : fL w = 3 → fS w ≤ 10) : canS (stoV E S w).2 := by
  have hv : canV (if fL w = 3 then rgV S (sRr w) else numV (cstN (BitVec.ofInt 64 (fI w)))) := by
    split
    · rename_i e
      exact can_r h hF (sR_10 (hs e))
    · exact can_num _
  unfold stoV
  generalize (if fL w = 3 then rgV S (sRr w) else numV (cstN (BitVec.ofInt 64 (fI w)))) = V at *
  split
  · exact h
  · split
    · exact h
    · split
      · split
        · exact h
        · split <;> exact h
      · split
        · exact h
        · split
          · exact h
          · split
            · exact h
            · split
              · intro k hk
                have hk : k < 26 * sF S := hk
                show canV (if k = 26 * (vw (rgV S (dR w))).toNat + 10 + (vo (rgV S (dR w)) + fO w + 128).toNat / 8 then V else sV S k)
                split
                · exact hv
                · exact h k hk
              · split
                · exact can_put h
                · exact h
theorem can_swp (h : canS S) {w : B64} : canS (swpV E S w).2 := by
  have a : canS (if vk (rgV S (dR w)) = 3 then putB S (vw (rgV S (dR w))).toNat (vo (rgV S (dR w)) + fO w + 128).toNat (bytN w) (bytN w) else S) := by
    split
    · exact can_put h
    · exact h
  unfold swpV
  split
  · exact h
  · split
    · exact h
    · split
      · exact h
      · split
        · exact h
        · split
          · exact h
          · split
            · exact h
            · show canS (if fI w = 241 then _ else _)
              split
              · exact can_w a (can_num _)
              · split
                · exact can_w a (can_num _)
                · exact a
def wayC (w : WY) : Prop := ∀ n S, w = some (n, S) → canS S
theorem wayC_0 : wayC none := fun _ _ e => by cases e
theorem wayC_1 {n : Int} (h : canS S) : wayC (some (n, S)) := fun _ _ e => by cases e; exact h
theorem can_nrw (h : canS S) {w : B64} {c : Int} {is : Bool} {x y : N6} : canS (nrwS S w c is x y) := by
  unfold nrwS
  split
  · exact can_w (can_w h (can_num _)) (can_num _)
  · exact can_w h (can_num _)
theorem can_numJ (h : canS S) {w : B64} {g n : Int} : wayC (numJ S w g n t).2.1 ∧ wayC (numJ S w g n t).2.2.1 := by
  unfold numJ
  split
  · exact ⟨wayC_1 h, wayC_0⟩
  · split
    · exact ⟨wayC_1 h, wayC_0⟩
    · split
      · exact ⟨wayC_1 h, wayC_1 h⟩
      · split
        · split
          · exact ⟨wayC_1 (can_nrw h), wayC_1 (can_nrw h)⟩
          · exact ⟨wayC_1 (can_nrw h), wayC_0⟩
        · split
          · exact ⟨wayC_1 (can_nrw h), wayC_0⟩
          · exact ⟨wayC_0, wayC_0⟩
theorem can_rchJ (h : canS S) {p : VL} {c g n : Int} : wayC (rchJ S p c g n t).2.1 ∧ wayC (rchJ S p c g n t).2.2.1 := by
  unfold rchJ
  refine ⟨wayC_1 ?_, wayC_1 ?_⟩
  · split
    · exact can_rch h
    · split
      · exact can_rch h
      · exact h
  · split
    · exact can_rch h
    · split
      · exact can_rch h
      · exact h
theorem can_cmp (h : canS S) {w : B64} {g n : Int} : wayC (cmpJ S w g n t).2.1 ∧ wayC (cmpJ S w g n t).2.2.1 := by
  unfold cmpJ
  split
  · exact ⟨wayC_0, wayC_0⟩
  · split
    · exact can_numJ h
    · split
      · split
        · exact ⟨wayC_1 (can_plc h), wayC_1 (can_becZ h)⟩
        · exact ⟨wayC_1 (can_becZ h), wayC_1 (can_plc h)⟩
      · split
        · exact ⟨wayC_1 h, wayC_0⟩
        · split
          · exact ⟨wayC_0, wayC_0⟩
          · split
            · exact can_rchJ h
            · split
              · exact can_rchJ h
              · exact ⟨wayC_0, wayC_0⟩
theorem can_ent (h : canS S) (hF : 1 ≤ sF S) {g n : Int} : wayC (entJ S g n t).2.1 ∧ wayC (entJ S g n t).2.2.1 := by
  unfold entJ
  split
  · exact ⟨wayC_0, wayC_0⟩
  · refine ⟨wayC_1 (fun k hk => ?_), wayC_0⟩
    have hk : k < 26 * (sF S + 1) := hk
    show canV (if 26 * sF S + 1 ≤ k ∧ k ≤ 26 * sF S + 5 then sV S (k - 26) else (if 26 * sF S ≤ k ∧ k < 26 * sF S + 26 then unsV else sV S k))
    split
    · exact h _ (by omega)
    · split
      · exact can_uns
      · exact h _ (by omega)
theorem can_exi (h : canS S) (hF : 1 ≤ sF S) : wayC (exiJ S t).2.1 ∧ wayC (exiJ S t).2.2.1 := by
  unfold exiJ
  split
  · exact ⟨wayC_0, wayC_0⟩
  · split
    · exact ⟨wayC_0, wayC_0⟩
    · split
      · split <;> exact ⟨wayC_0, wayC_0⟩
      · refine ⟨wayC_1 (can_unsA (can_w (S := (sF S - 1, sV S, sB S, sH S)) (fun k hk => ?_) (can_r h hF (by omega)))), wayC_0⟩
        have hk : k < 26 * (sF S - 1) := hk
        exact h k (by omega)
theorem can_hlp (h : canS S) {x n : Int} : wayC (hlpJ E S x n t).2.1 ∧ wayC (hlpJ E S x n t).2.2.1 := by
  have hs : canS (hlpS S x) := by
    unfold hlpS
    split
    · exact can_put h
    · split
      · refine can_all h fun v hv => ?_
        unfold pktV
        split
        · exact can_uns
        · exact hv
      · split
        · refine can_all (S := relH S _) h fun v hv => ?_
          unfold recV
          split
          · exact can_uns
          · exact hv
        · exact h
  unfold hlpJ
  split
  · exact ⟨wayC_0, wayC_0⟩
  · split
    · exact ⟨wayC_1 (can_w (can_unsA h) (can_mk (by decide))), wayC_0⟩
    · split
      · refine ⟨wayC_1 (fun k hk => ?_), wayC_0⟩
        exact can_w (S := unsA S) (r := 0) (v := mkV 10 (jV (vn (rgV S 2))).toInt (t + 1)) (can_unsA h) (can_mk (by decide)) k hk
      · exact ⟨wayC_1 (can_w (can_unsA hs) (can_num _)), wayC_0⟩
theorem can_way {f n t' : Int} (h : f = 0 → canS S) : wayC (wayJ f n S t').2.1 ∧ wayC (wayJ f n S t').2.2.1 := by
  unfold wayJ
  split
  · rename_i e
    exact ⟨wayC_1 (h e), wayC_0⟩
  · exact ⟨wayC_0, wayC_0⟩
theorem stp_can (h : canS S) (ho : okS E t S) {w w2 : B64} {i : Int} (hw : okI w w2) : wayC (stpJ E S i w w2 t).2.1 ∧ wayC (stpJ E S i w w2 t).2.2.1 := by
  have hF := ho.1.1
  have fr := fld_rng w
  unfold stpJ
  by_cases l0 : fL w = 0
  · rw [if_pos l0]
    split
    · exact ⟨wayC_1 (can_w h (can_num _)), wayC_0⟩
    · split
      · exact ⟨wayC_0, wayC_0⟩
      · exact ⟨wayC_1 (can_w h (can_mk (by decide))), wayC_0⟩
  · rw [if_neg l0]
    have hw : okPl w := by
      rcases hw with hw | hw
      · exact absurd hw.1 l0
      · exact hw
    unfold okPl at hw
    rw [if_neg l0] at hw
    by_cases l4 : fL w = 4 ∨ fL w = 7
    · rw [if_pos l4] at hw ⊢
      refine can_way fun _ => can_w h (can_alu h hF hw.1.1 fun r c1 c2 => ?_)
      have := hw.2
      rw [if_neg c1, if_neg c2, if_pos r] at this
      exact this.1.1
    · rw [if_neg l4] at hw ⊢
      by_cases l5 : fL w = 5 ∨ fL w = 6
      · rw [if_pos l5] at hw ⊢
        split
        · exact ⟨wayC_1 h, wayC_0⟩
        · split
          · exact can_exi h hF
          · split
            · split
              · exact can_ent h hF
              · exact can_hlp h
            · exact can_cmp h
      · rw [if_neg l5] at hw ⊢
        unfold okMem at hw
        by_cases l1 : fL w = 1
        · rw [if_pos l1] at hw ⊢
          exact can_way fun z => can_w h (can_lod h ho hw.2.2.1 z)
        · rw [if_neg l1] at hw ⊢
          by_cases m : fL w = 3 ∧ fM w = 192
          · rw [if_pos m]
            exact can_way fun _ => can_swp h
          · rw [if_neg m]
            refine can_way fun _ => can_sto h hF fun l3 => ?_
            rw [if_neg (by omega)] at hw
            by_cases m96 : fM w = 96
            · rw [if_pos m96] at hw
              exact hw.2.1
            · exfalso
              refine m ⟨l3, ?_⟩
              rw [if_neg m96] at hw
              unfold fM
              omega
end CN
-- FILE 21b.ext
/-! ===== maps that are told later change nothing ===== -/
def extE (E E' : EV) : Prop := ∀ m : Nat, m < 8 → (0 ≤ E.1 m → E'.1 m = E.1 m ∧ E'.2.1 m = E.2.1 m ∧ E'.2.2 m = E.2.2 m) ∧ (E.1 m < 0 → E.2.2 m ≤ 0)
section EX
variable {E E' : EV} {S : ST} {t : Int}
theorem room_ext (hx : extE E E') {g : Nat} {v : VL} (o : okV E g t v) (b n : Int) : room E' v b n = room E v b n := by
  have key : (if vk v = 5 then E'.2.2 (vw v).toNat else vw v) = (if vk v = 5 then E.2.2 (vw v).toNat else vw v) := by
    by_cases k : vk v = 5
    · rw [if_pos k, if_pos k]
      have q := o.2.2.2.2.1 (Or.inl k)
      have z := hx (vw v).toNat (by omega)
      exact (z.1 (by omega)).2.2
    · rw [if_neg k, if_neg k]
  unfold room
  rw [key]
theorem lod_ext (hx : extE E E') (ho : okS E t S) {w : B64} (hs : fS w ≤ 10) : lodV E' S w = lodV E S w := by
  unfold lodV
  simp only [room_ext hx (rV_ok ho (sR_10 hs))]
theorem sto_ext (hx : extE E E') (ho : okS E t S) {w : B64} (hd : fD w ≤ 10) : stoV E' S w = stoV E S w := by
  unfold stoV
  simp only [room_ext hx (rV_ok ho (dR_10 hd))]
theorem swp_ext (hx : extE E E') (ho : okS E t S) {w : B64} (hd : fD w ≤ 10) : swpV E' S w = swpV E S w := by
  unfold swpV
  simp only [room_ext hx (rV_ok ho (dR_10 hd))]
theorem wntM_ext (hx : extE E E') {g : Nat} {x : VL} (o : okV E g t x) (a b : Int) : wntM E' x a b = wntM E x a b := by
  unfold wntM
  congr 1
  by_cases k : vk x = 4
  · have q := o.2.2.2.1 k
    have z := (hx (vw x).toNat (by omega)).1 q.2.2
    rw [z.1]
  · have e1 : decide (vk x = 4 ∧ a ≤ E'.1 (vw x).toNat ∧ E'.1 (vw x).toNat ≤ b) = false := decide_eq_false fun q => k q.1
    have e2 : decide (vk x = 4 ∧ a ≤ E.1 (vw x).toNat ∧ E.1 (vw x).toNat ≤ b) = false := decide_eq_false fun q => k q.1
    rw [e1, e2]
theorem wntB_ext (hx : extE E E') {g : Nat} {x : VL} (o : okV E g t x) (n : Int) : wntB E' S x n = wntB E S x n := by
  unfold wntB
  simp only [room_ext hx o]
theorem hlpF_ext (hx : extE E E') (ho : okS E t S) {h : Int} (hf : hlpF E S h = 0) : hlpF E' S h = 0 := by
  have o : ∀ r, r ≤ 10 → okV E (sF S - 1) t (rgV S r) := fun r hr => rV_ok ho hr
  have sz : wntM E (rgV S 1) 0 1 = 0 → E'.2.1 (vw (rgV S 1)).toNat = E.2.1 (vw (rgV S 1)).toNat ∧ E'.2.2 (vw (rgV S 1)).toNat = E.2.2 (vw (rgV S 1)).toNat := fun a => by
    have q := (wntA_0 a).2.2
    have q : vk (rgV S 1) = 4 ∧ 0 ≤ E.1 (vw (rgV S 1)).toNat ∧ E.1 (vw (rgV S 1)).toNat ≤ 1 := by simpa using q
    have z := (o 1 (by omega)).2.2.2.1 q.1
    have y := (hx (vw (rgV S 1)).toNat (by omega)).1 z.2.2
    exact y.2
  unfold hlpF at hf ⊢
  by_cases c1 : h = 1 ∨ h = 3
  · rw [if_pos c1] at hf ⊢
    have s := sz (fst_0 hf).1
    rw [wntM_ext hx (o 1 (by omega)), wntB_ext hx (o 2 (by omega)), s.1]
    exact hf
  · rw [if_neg c1] at hf ⊢
    by_cases c2 : h = 2
    · rw [if_pos c2] at hf ⊢
      have s := sz (fst_0 (fst_0 (fst_0 hf).1).1).1
      rw [wntM_ext hx (o 1 (by omega)), wntB_ext hx (o 2 (by omega)), wntB_ext hx (o 3 (by omega)), s.1, s.2]
      exact hf
    · rw [if_neg c2] at hf ⊢
      simp only [wntM_ext hx (o 1 (by omega)), wntM_ext hx (o 2 (by omega)), wntB_ext hx (o 1 (by omega)), room_ext hx (o 3 (by omega))]
      exact hf
theorem hlpJ_ext (hx : extE E E') (ho : okS E t S) {h n : Int} (hf : (hlpJ E S h n t).1 = 0) : hlpJ E' S h n t = hlpJ E S h n t := by
  have h0 : hlpF E S h = 0 := by
    refine Decidable.byContradiction fun e => ?_
    unfold hlpJ at hf
    rw [if_pos e] at hf
    exact e hf
  unfold hlpJ
  rw [if_neg (not_not_intro h0), if_neg (not_not_intro (hlpF_ext hx ho h0))]
theorem stp_ext (hx : extE E E') (ho : okS E t S) {w w2 : B64} {i : Int} (hw : okI w w2) (hf : (stpJ E S i w w2 t).1 = 0) : stpJ E' S i w w2 t = stpJ E S i w w2 t := by
  have fr := fld_rng w
  unfold stpJ at hf ⊢
  by_cases l0 : fL w = 0
  · rw [if_pos l0] at hf ⊢
    rw [if_pos l0]
    have hp : okPr w w2 := by
      rcases hw with hw | hw
      · exact hw.2
      · exfalso
        have : okPl w := hw
        unfold okPl at this
        rw [if_pos l0] at this
        exact this
    by_cases s0 : fS w = 0
    · rw [if_pos s0, if_pos s0]
    · rw [if_neg s0] at hf ⊢
      rw [if_neg s0]
      split at hf
      · exfalso; have hf : (15 : Int) = 0 := hf; omega
      · rename_i e0
        have i7 : 0 ≤ fI w ∧ fI w ≤ 7 := by have := hp.2; omega
        have z := ((hx (fI w).toNat (by omega)).1 (by omega)).1
        rw [if_neg e0, if_neg (by rw [z]; exact e0)]
  · rw [if_neg l0] at hf ⊢
    rw [if_neg l0]
    have hw : okPl w := by
      rcases hw with hw | hw
      · exact absurd hw.1 l0
      · exact hw
    unfold okPl at hw
    rw [if_neg l0] at hw
    by_cases l4 : fL w = 4 ∨ fL w = 7
    · rw [if_pos l4, if_pos l4]
    · rw [if_neg l4] at hf hw ⊢
      rw [if_neg l4]
      by_cases l5 : fL w = 5 ∨ fL w = 6
      · rw [if_pos l5] at hf ⊢
        rw [if_pos l5]
        by_cases j1 : fOp w = 5 ∨ fOp w = 6
        · rw [if_pos j1, if_pos j1]
        · rw [if_neg j1] at hf ⊢
          rw [if_neg j1]
          by_cases j2 : fOp w = 149
          · rw [if_pos j2, if_pos j2]
          · rw [if_neg j2] at hf ⊢
            rw [if_neg j2]
            by_cases j3 : fOp w = 133
            · rw [if_pos j3] at hf ⊢
              rw [if_pos j3]
              by_cases s1 : fS w = 1
              · rw [if_pos s1, if_pos s1]
              · rw [if_neg s1] at hf ⊢
                rw [if_neg s1]
                exact hlpJ_ext hx ho hf
            · rw [if_neg j3, if_neg j3]
      · rw [if_neg l5] at hf hw ⊢
        rw [if_neg l5]
        unfold okMem at hw
        by_cases l1 : fL w = 1
        · rw [if_pos l1] at hw ⊢
          rw [if_pos l1, lod_ext hx ho hw.2.2.1]
        · rw [if_neg l1] at hw ⊢
          rw [if_neg l1]
          have d10 : fD w ≤ 10 := by
            split at hw
            · exact hw.2.1
            · split at hw
              · exact hw.1
              · exact hw.1.2
          by_cases m : fL w = 3 ∧ fM w = 192
          · rw [if_pos m, if_pos m, swp_ext hx ho d10]
          · rw [if_neg m, if_neg m, sto_ext hx ho d10]
theorem ins_ext {G : Int → Prop} {p : Int → B64} (hx : extE E E') (hp : okP G p) {w : WK} (hw : wfI E G w) (h0 : (insK E p w).1 = 0) : insK E' p w = insK E p w := by
  obtain ⟨⟨ho, hm, hk, hi⟩, -, -⟩ := hw
  unfold insK at h0 ⊢
  by_cases c : yG w = 4000
  · rw [if_pos c, if_pos c]
  · rw [if_neg c] at h0 ⊢
    rw [if_neg c]
    have f0 : (stpJ E (yS w) (yA w) (p (yA w)) (p (yA w + 1)) (yT w)).1 = 0 := by
      refine Decidable.byContradiction fun e => ?_
      simp only [e, not_false_eq_true, if_true] at h0
    rw [stp_ext hx ho (hp _ hi).1 f0]
theorem itr_ext {G : Int → Prop} {p : Int → B64} {J : Int → Bool} (hx : extE E E') (hp : okP G p) {first : Bool} {w : WK} (hw : wfI E G w) (h0 : (itrK E p J first w).1 = 0) : itrK E' p J first w = itrK E p J first w := by
  have wm : (if J (yA w) = true ∧ first = false then meeK w else (0, false, w)).2.1 = false → wfI E G (if J (yA w) = true ∧ first = false then meeK w else (0, false, w)).2.2 := by
    split
    · unfold meeK
      split
      · split
        · intro _; exact hw
        · intro q; cases q
      · split
        · intro _; exact hw
        · intro _
          obtain ⟨f1, f2, f3⟩ := hw
          refine ⟨f1, fun k hk => ?_, f3⟩
          show goS E G (yT w) (kS (upK (yH w) (yNn w) (yS w, yA w, (yK w : Int), yF w, 1, 0) k)) (kA (upK (yH w) (yNn w) (yS w, yA w, (yK w : Int), yF w, 1, 0) k))
          have hk : k < yNn w + 1 := hk
          by_cases e : k = yNn w
          · have : upK (yH w) (yNn w) (yS w, yA w, (yK w : Int), yF w, 1, 0) k = (yS w, yA w, (yK w : Int), yF w, 1, 0) := if_pos e
            rw [this]
            exact f1
          · have : upK (yH w) (yNn w) (yS w, yA w, (yK w : Int), yF w, 1, 0) k = yH w k := if_neg e
            rw [this]
            exact f2 k (by omega)
    · intro _; exact hw
  unfold itrK at h0 ⊢
  generalize (if J (yA w) = true ∧ first = false then meeK w else (0, false, w)) = m at *
  obtain ⟨m1, m2, m3⟩ := m
  simp only at h0 wm ⊢
  by_cases z : m1 = 0
  · simp only [z, not_true_eq_false, if_false] at h0 ⊢
    cases m2 with
    | true => rfl
    | false =>
      simp only [Bool.false_eq_true, if_false] at h0 ⊢
      have i0 : (insK E p m3).1 = 0 := by
        refine Decidable.byContradiction fun e => ?_
        simp only [e, not_false_eq_true, if_true] at h0
      rw [ins_ext hx hp (wm rfl) i0]
  · simp only [z, not_false_eq_true, if_true]
/-- a machine of which nothing is asked -/
def dumB : WB Unit := (fun _ => 0, fun _ _ _ => 0#64, fun w _ _ _ => w, fun _ _ => false, fun _ _ => 0)
def dumH : WH Unit := (fun _ _ => 0#64, fun w _ => w, fun _ _ _ => none, fun w _ _ _ _ => (w, 0#64), fun w _ _ => (w, 0#64), fun _ => 0#64, fun w _ => w, fun w => (w, 0#64), fun _ _ _ => none, fun _ _ n => (List.replicate n 0#64, 0#64), fun w _ => (w, 0#64), fun w _ _ => (w, none), fun w _ _ => w)
theorem dum_B : okB dumB := ⟨fun _ _ _ _ => ⟨rfl, rfl, rfl⟩, fun _ _ _ => by show (0#64).toNat < 256; decide, fun _ => by show 0 ≤ 256; decide⟩
theorem dum_H : okH dumB dumH := by
  refine ⟨fun _ _ => by show (0#64).toNat < 4294967296; decide, fun _ _ => ⟨rfl, rfl, rfl⟩, fun _ _ _ _ h => (by cases h), fun _ _ _ _ _ => ⟨rfl, rfl, rfl⟩, fun _ _ _ => ⟨rfl, rfl, rfl⟩, fun _ _ => ⟨rfl, rfl, rfl⟩, fun _ => ⟨⟨rfl, rfl, rfl⟩, by show (0#64).toNat < 4294967296; decide⟩, fun _ _ _ _ h => (by cases h), fun _ _ n => ⟨List.length_replicate .., fun y hy => ?_⟩, fun _ _ => ⟨rfl, rfl⟩, fun _ _ _ => ⟨rfl, fun _ => ⟨rfl, rfl⟩, fun i h => (by cases h)⟩, fun _ _ _ => ⟨rfl, rfl, fun j _ => ?_⟩⟩
  · have : y = 0#64 := List.eq_of_mem_replicate hy
    rw [this]
    decide
  · show (false = true) ↔ (_ ∧ false = true)
    simp
/-- what is taken stays taken -/
theorem wlk_ext {G : Int → Prop} {p : Int → B64} {J : Int → Bool} {S0 : ST} (hE : okE E) (hx : extE E E') (hp : okP G p) : ∀ (n : Nat) (first : Bool) (w w' : WK) (D : Nat → Int), INV dumB dumH E p id S0 G w D → wlkK E p J n first w = some (0, w') → wlkK E' p J n first w = some (0, w') := by
  intro n
  induction n with
  | zero => intro first w w' D _ h; cases h
  | succ n ih =>
    intro first w w' D h e
    unfold wlkK at e ⊢
    by_cases z : (itrK E p J first w).1 = 0
    · rw [itr_ext hx hp h.2.2.2.2.2 z]
      rw [if_neg (not_not_intro z)] at e ⊢
      have g := itr_i (J := J) dum_B dum_H hE (fun _ => ⟨rfl, rfl, rfl⟩) hp h z
      split at e
      · rename_i o
        rw [if_pos o]
        exact e
      · rename_i o
        rw [if_neg o]
        obtain ⟨D', h'⟩ := g.2 (by simpa using o)
        exact ih _ _ _ _ h' e
    · rw [if_pos z] at e
      simp only [Option.some.injEq, Prod.mk.injEq] at e
      exact absurd e.1 z
end EX
-- FILE 21c.rn
/-! ===== whole runs: programs that go on with programs ===== -/
def S0J : ST := (1, fun k => if k = 1 then mkV 2 0 0 else unsV, fun _ => 0, [])
theorem S0_can : canS S0J := fun k _ => by
  show canV (if k = 1 then mkV 2 0 0 else unsV)
  split
  · exact can_mk (by decide)
  · exact can_uns
theorem S0_ok {E : EV} : okS E 0 S0J := by
  have k2 : vk (mkV 2 0 0) = 2 := rfl
  have u0 : vk unsV = 0 := rfl
  have cs : ∀ k : Nat, vk (sV S0J k) = 2 ∨ vk (sV S0J k) = 0 := fun k => by
    show vk (if k = 1 then mkV 2 0 0 else unsV) = 2 ∨ vk (if k = 1 then mkV 2 0 0 else unsV) = 0
    split
    · exact Or.inl k2
    · exact Or.inr u0
  refine ⟨⟨by show 1 ≤ 1; decide, by show 1 ≤ 4; decide⟩, fun k _ => ?_, fun k k' _ _ a => ?_, fun h hh => (by cases hh), List.nodup_nil, by show 0 ≤ 64; decide, Int.le_refl _⟩
  · have c := cs k
    refine ⟨by omega, ?_, ?_, ?_, ?_, ?_, ?_, ?_, ?_, ?_⟩ <;> intro e <;> (exfalso; omega)
  · have c := cs k
    exfalso; omega
theorem S0_m : okM S0J := fun k _ => by
  show okN (vn (if k = 1 then mkV 2 0 0 else unsV))
  split <;> exact okN_cst _
section RU
variable {W : Type} {B : WB W} {H : WH W} {E : EV} {tk : W → W}
def st0 (v : W) : TC W := (0, 1, (fun i j => if i = 0 ∧ j = 1 then (1, 0#64) else nilR), (fun _ _ => (0, 0, 0#64)), (fun _ => 0), v)
theorem st0_g (v : W) (h : ∀ i, i < 64 → B.2.2.2.1 v i = false) : gC B E S0J 0 (st0 v) := by
  have u0 : vk unsV = 0 := rfl
  refine ⟨rfl, fun _ => 0, fun _ => 0#64, rfl, fun f r hf hr => ?_, fun f q hf hq => ?_, fun f h1 h2 => ?_, fun i hi => ⟨fun q => ?_, fun ⟨x, x1, _⟩ => (by cases x1)⟩, fun a b ha => (by cases ha), fun f b hb => ?_, rfl⟩
  · have hf : f < 1 := hf
    have f0 : f = 0 := by omega
    subst f0
    show gV E _ _ _ _ _ (if 26 * 0 + r = 1 then mkV 2 0 0 else unsV) (if 0 = 0 ∧ r = 1 then (1, 0#64) else nilR)
    by_cases e : r = 1
    · rw [if_pos (by omega), if_pos ⟨rfl, e⟩]
      exact mk_2 rfl rfl
    · rw [if_neg (by omega)]
      exact mk_0 rfl
  · have hf : f < 1 := hf
    show gP E _ _ _ _ _ (if 26 * f + 10 + q = 1 then mkV 2 0 0 else unsV) _
    rw [if_neg (by omega)]
    refine ⟨fun _ i _ hb => ?_, fun e => absurd rfl e⟩
    have hb : (0 : Int).toNat.testBit i = true := hb
    simp at hb
  · have h2 : f < 1 := h2
    omega
  · have := h i hi
    rw [show B.2.2.2.1 (cW (st0 v)) i = B.2.2.2.1 v i from rfl, this] at q
    cases q
  · have hb : (0 : Nat) = 1 := hb
    omega
/-- what each step keeps of the rest of a machine -/
def keepR (B : WB W) (H : WH W) (R : W → W → Prop) : Prop :=
  (∀ w, R w w) ∧ (∀ a b c, R a b → R b c → R a c) ∧ (∀ w o b v, R w (B.2.2.1 w o b v)) ∧ (∀ w x, R w (H.2.1 w x)) ∧ (∀ w m k v f, R w (H.2.2.2.1 w m k v f).1) ∧ (∀ w m k, R w (H.2.2.2.2.1 w m k).1) ∧ (∀ w l, R w (H.2.2.2.2.2.2.1 w l)) ∧ (∀ w, R w (H.2.2.2.2.2.2.2.1 w).1) ∧ (∀ w x, R w (H.2.2.2.2.2.2.2.2.2.2.1 w x).1) ∧ (∀ w m n, R w (H.2.2.2.2.2.2.2.2.2.2.2.1 w m n).1) ∧ (∀ w i b, R w (H.2.2.2.2.2.2.2.2.2.2.2.2 w i b))
section KR
variable {R : W → W → Prop} (hR : keepR B H R)
theorem wrB_R (hR : keepR B H R) {c c' : TC W} {o b : Nat} {v : B64} (h : wrB B c o b v = some c') : R (cW c) (cW c') := by
  unfold wrB at h
  split at h
  · split at h
    · cases h; exact hR.1 _
    · cases h
  · split at h
    · split at h
      · cases h; exact hR.2.2.1 _ _ _ _
      · cases h
    · split at h
      · split at h
        · cases h; exact hR.2.2.1 _ _ _ _
        · cases h
      · split at h
        · split at h
          · cases h; exact hR.2.2.1 _ _ _ _
          · cases h
        · cases h
theorem wrL_R (hR : keepR B H R) {o : Nat} : ∀ (l : List B64) {b : Nat} {c c' : TC W}, wrL B c o b l = some c' → R (cW c) (cW c') := by
  intro l
  induction l with
  | nil => intro b c c' h; cases h; exact hR.1 _
  | cons v l ih =>
    intro b c c' h
    unfold wrL at h
    split at h
    · rename_i c1 h1
      exact hR.2.1 _ _ _ (wrB_R hR h1) (ih h)
    · cases h
theorem stoT_R (hR : keepR B H R) {c c' : TC W} {w : B64} (h : stoT B H c w = some c') : R (cW c) (cW c') := by
  unfold stoT at h
  simp only at h
  split at h
  · split at h
    · cases h; exact hR.2.2.2.1 _ _
    · cases h
  · split at h
    · exact wrL_R hR _ h
    · split at h
      · cases h; exact hR.1 _
      · cases h
theorem swT_R (hR : keepR B H R) {c c' : TC W} {w : B64} (h : swT B c w = some c') : R (cW c) (cW c') := by
  unfold swT at h
  split at h
  · cases h
  · split at h
    · cases h
    · split at h
      · split at h
        · cases h
        · split at h
          · rename_i l _ _ _ c1 h1
            cases h
            split at h1
            · exact wrL_R hR _ h1
            · cases h1; exact hR.1 _
          · cases h
      · split at h
        · rename_i c1 h1
          cases h
          have := wrL_R hR _ h1
          split
          · exact this
          · exact this
        · cases h
theorem hpT_R (hR : keepR B H R) {c c' : TC W} {h n : Int} {k : Nat} (e : hpT B H E c h n = some (k, c')) : (k = 2 ∧ ∃ m x, H.2.2.2.2.2.2.2.2.1 (cW c) m x = some (cW c')) ∨ (¬ k = 2 ∧ R (cW c) (cW c')) := by
  obtain ⟨r1, r2, r3, r4, r5, r6, r7, r8, r9, r10, r11⟩ := hR
  have bh : ∀ {s : Nat → Nat → MB} {v : W} {r : SV}, bhT c s v r n = some (k, c') → R (cW c) v → (k = 2 ∧ ∃ m x, H.2.2.2.2.2.2.2.2.1 (cW c) m x = some (cW c')) ∨ (¬ k = 2 ∧ R (cW c) (cW c')) := fun q hv => by
    unfold bhT at q
    cases q
    exact Or.inr ⟨by decide, hv⟩
  unfold hpT at e
  split at e
  · split at e
    · cases e
    · split at e
      · cases e
      · split at e
        · split at e
          · exact bh e (r1 _)
          · exact bh e (r1 _)
        · split at e
          · exact bh e (r6 _ _ _)
          · split at e
            · cases e
            · split at e
              · cases e
              · exact bh e (r5 _ _ _ _ _)
  · split at e
    · exact bh e (r1 _)
    · split at e
      · split at e
        · cases e
        · split at e
          · cases e
          · exact bh e (r7 _ _)
      · split at e
        · exact bh e (r8 _)
        · split at e
          · split at e
            · cases e
            · split at e
              · rename_i v hv
                cases e
                exact Or.inl ⟨rfl, _, _, hv⟩
              · exact bh e (r1 _)
          · split at e
            · split at e
              · cases e
              · split at e
                · cases e
                · rename_i c1 h1
                  unfold bhT at e
                  cases e
                  exact Or.inr ⟨by decide, r1 _⟩
            · split at e
              · split at e
                · cases e
                · exact bh e (r9 _ _)
              · split at e
                · split at e
                  · cases e
                  · exact bh e (r10 _ _ _)
                · split at e
                  · split at e
                    · cases e
                    · exact bh e (r11 _ _ _)
                  · cases e
theorem stpT_R (hR : keepR B H R) {c c' : TC W} {w w2 : B64} {k : Nat} (e : stpT B H E c w w2 = some (k, c')) : (k = 2 ∧ ∃ m x, H.2.2.2.2.2.2.2.2.1 (cW c) m x = some (cW c')) ∨ (¬ k = 2 ∧ R (cW c) (cW c')) := by
  have id0 : R (cW c) (cW c) := hR.1 _
  unfold stpT at e
  split at e
  · split at e
    · cases e; exact Or.inr ⟨by decide, id0⟩
    · cases e; exact Or.inr ⟨by decide, id0⟩
  · split at e
    · split at e
      · cases e; exact Or.inr ⟨by decide, id0⟩
      · cases e
    · split at e
      · split at e
        · cases e; exact Or.inr ⟨by decide, id0⟩
        · split at e
          · unfold exT at e
            split at e
            · cases e
            · split at e
              · cases e; exact Or.inr ⟨by decide, id0⟩
              · cases e; exact Or.inr ⟨by decide, id0⟩
          · split at e
            · split at e
              · split at e
                · cases e
                · cases e; exact Or.inr ⟨by decide, id0⟩
              · exact hpT_R hR e
            · split at e
              · cases e; exact Or.inr ⟨by decide, id0⟩
              · cases e
      · split at e
        · split at e
          · cases e; exact Or.inr ⟨by decide, id0⟩
          · cases e
        · split at e
          · split at e
            · rename_i c1 h1
              cases e
              exact Or.inr ⟨by decide, swT_R hR h1⟩
            · cases e
          · split at e
            · rename_i c1 h1
              cases e
              exact Or.inr ⟨by decide, stoT_R hR h1⟩
            · cases e
end KR
/-- a run: of a program, and of those that it goes on with -/
noncomputable def rnT (B : WB W) (H : WH W) (E : EV) (tk : W → W) (pr : Int → Int → B64) (sl : W → Int) : Nat → Int → TC W → Option (TC W)
  | 0, _, _ => none
  | n + 1, s, c => match stp1 B H E (pr s) tk c with
    | none => none
    | some (0, c') => rnT B H E tk pr sl n s c'
    | some (1, c') => some c'
    | some (_, c') => rnT B H E tk pr sl n (sl (cW c')) (st0 (cW c'))
theorem rnT_mono {pr : Int → Int → B64} {sl : W → Int} : ∀ (n : Nat) (s : Int) (c r : TC W), rnT B H E tk pr sl n s c = some r → rnT B H E tk pr sl (n + 1) s c = some r := by
  intro n
  induction n with
  | zero => intro s c r h; cases h
  | succ n ih =>
    intro s c r h
    unfold rnT at h ⊢
    split at h
    · cases h
    · exact ih _ _ _ h
    · exact h
    · exact ih _ _ _ h
theorem rnT_le {pr : Int → Int → B64} {sl : W → Int} {n m : Nat} {s : Int} {c r : TC W} (h : rnT B H E tk pr sl n s c = some r) (hm : n ≤ m) : rnT B H E tk pr sl m s c = some r := by
  induction hm with
  | refl => exact h
  | step _ ih => exact rnT_mono _ _ _ _ ih
theorem rn_one {R : W → W → Prop} (hR : keepR B H R) (hk : ∀ w, R w (tk w)) {pr : Int → Int → B64} {sl : W → Int} {rem : W → Nat} {I : W → Prop} (h1 : ∀ w v, R w v → rem v = rem w ∧ (I w → I v)) (h2 : ∀ w m x v, I w → H.2.2.2.2.2.2.2.2.1 w m x = some v → rem v + 1 = rem w ∧ I v) {m : Nat} {s : Int} : ∀ (n : Nat) (c : TC W), fin B H E (pr s) tk n c → I (cW c) →
    (∀ v, I v → rem v + 1 = rem (cW c) → (∀ i, i < 64 → B.2.2.2.1 v i = false) → (∃ w mm x, I w ∧ H.2.2.2.2.2.2.2.2.1 w mm x = some v) → ∃ r, rnT B H E tk pr sl m (sl v) (st0 v) = some r) → ∃ r, rnT B H E tk pr sl (n + m) s c = some r := by
  intro n
  induction n with
  | zero => intro c h; exact h.elim
  | succ n ih =>
    intro c h hI ht
    obtain ⟨k, c', e, a, b⟩ := h
    have q := stpT_R hR (show stpT B H E (cP c, cN c, cR c, cS c, cB c, tk (cW c)) _ _ = some (k, c') from e)
    have tI := (h1 _ _ (hk (cW c)))
    rw [show n + 1 + m = (n + m) + 1 by omega]
    unfold rnT
    rw [e]
    match k, a, b, q with
    | 0, a, b, q =>
      simp only
      have q := (q.resolve_left (fun z => by omega)).2
      have z := h1 _ _ q
      refine ih c' (a rfl) (z.2 (tI.2 hI)) ?_
      rw [show rem (cW c') = rem (cW c) from z.1.trans tI.1]
      exact ht
    | 1, a, b, q => exact ⟨c', rfl⟩
    | k + 2, a, b, q =>
      simp only
      have eb := b (by omega)
      obtain ⟨mm, x, hx⟩ : ∃ m x, H.2.2.2.2.2.2.2.2.1 (tk (cW c)) m x = some (cW c') := by
        rcases q with q | q
        · exact q.2
        · exfalso
          have := eb.1
          omega
      have z := h2 _ _ _ _ (tI.2 hI) hx
      obtain ⟨r, hr⟩ := ht (cW c') z.2 (by rw [← tI.1]; exact z.1) eb.2.2 ⟨_, mm, x, tI.2 hI, hx⟩
      exact ⟨r, rnT_le hr (by omega)⟩
/-- every run of a program that was taken ends -/
theorem rn_ends {R : W → W → Prop} (hB : okB B) (hH : okH B H) (hE : okE E) (hT : okT B tk) (hR : keepR B H R) (hk : ∀ w, R w (tk w)) {pr : Int → Int → B64} {sl : W → Int} {rem : W → Nat} {I : W → Prop} {good : Int → Prop} (h1 : ∀ w v, R w v → rem v = rem w ∧ (I w → I v)) (h2 : ∀ w m x v, I w → H.2.2.2.2.2.2.2.2.1 w m x = some v → rem v + 1 = rem w ∧ I v ∧ good (sl v))
    (h3 : ∀ s, good s → ∃ (G : Int → Prop) (J : Int → Bool) (n : Nat) (w' : WK), okP G (pr s) ∧ G 0 ∧ wlkK E (pr s) J n true (begK S0J) = some (0, w')) :
    ∀ (d : Nat) (v : W) (s : Int), rem v ≤ d → I v → good s → (∀ i, i < 64 → B.2.2.2.1 v i = false) → ∃ r, rnT B H E tk pr sl (4000 * (d + 1)) s (st0 v) = some r := by
  intro d
  have f4 : ∀ (v : W) (s : Int), good s → (∀ i, i < 64 → B.2.2.2.1 v i = false) → fin B H E (pr s) tk 4000 (st0 v) := fun v s hs hv => by
    obtain ⟨G, J, n, w', g1, g2, g3⟩ := h3 s hs
    exact walk_fin hB hH hE hT g1 ⟨S0_ok, S0_m, fun f a b => (by have b : f < 1 := b; omega), g2⟩ g3 (st0_g v hv)
  induction d with
  | zero =>
    intro v s hd hI hs hv
    have := rn_one (pr := pr) (sl := sl) (m := 0) hR hk h1 (fun w m x v a b => ⟨(h2 w m x v a b).1, (h2 w m x v a b).2.1⟩) 4000 (st0 v) (f4 v s hs hv) hI (fun v' _ e => by
      have e : rem v' + 1 = rem v := e
      omega)
    exact this
  | succ d ih =>
    intro v s hd hI hs hv
    have := rn_one (pr := pr) (sl := sl) (m := 4000 * (d + 1)) hR hk h1 (fun w m x v a b => ⟨(h2 w m x v a b).1, (h2 w m x v a b).2.1⟩) 4000 (st0 v) (f4 v s hs hv) hI (fun v' a e h ⟨w, mm, x, b1, b2⟩ => by
      have e : rem v' + 1 = rem v := e
      exact ih v' (sl v') (by omega) a (h2 w mm x v' b1 b2).2.2 h)
    rw [show 4000 * (d + 1 + 1) = 4000 + 4000 * (d + 1) by omega]
    exact this
end RU
-- FILE 21d.world
/-! ===== the rest of the reference's machine: maps, packet, records, trace ===== -/
/-- ints by (cell, place), as the reference has them; chances; all steps -/
abbrev WR : Type := (Nat → Nat → Int) × B64 × B64
abbrev wg (w : WR) (k s : Nat) : Int := w.1 k s
def wset (w : WR) (k s : Nat) (x : Int) : WR := (u2 w.1 k s x, w.2)
/-- places from s on of a cell: those of a list -/
def wsL (w : WR) (k s : Nat) (l : List Int) : WR := (fun k' s' => if k' = k ∧ s ≤ s' ∧ s' < s + l.length then l.getD (s' - s) 0 else w.1 k' s', w.2)
/-- places from a on to below b: those that stand d behind -/
def wmv (w : WR) (k a b d : Nat) : WR := (fun k' s' => if k' = k ∧ a ≤ s' ∧ s' < b then w.1 k (s' + d) else w.1 k' s', w.2)
theorem wg_wset (w : WR) (k s : Nat) (x : Int) (k' s' : Nat) : wg (wset w k s x) k' s' = if k' = k ∧ s' = s then x else wg w k' s' := rfl
theorem wg_wsL_o {w : WR} {k s : Nat} {l : List Int} {k' s' : Nat} (h : ¬ k' = k) : wg (wsL w k s l) k' s' = wg w k' s' := if_neg fun q => h q.1
theorem wg_wmv_o {w : WR} {k a b d k' s' : Nat} (h : ¬ k' = k) : wg (wmv w k a b d) k' s' = wg w k' s' := if_neg fun q => h q.1
theorem wg_wset_o {w : WR} {k s : Nat} {x : Int} {k' s' : Nat} (h : ¬ k' = k) : wg (wset w k s x) k' s' = wg w k' s' := if_neg fun q => h q.1
def byW (x : Int) : B64 := BitVec.ofInt 64 (x % 256)
/-- a byte as it is kept -/
def kpW (b : B64) : Int := w8 b.toInt
def RB : WB WR :=
  (fun w => min (wg w 80 105).toNat 256,
   fun w o b => byW (if o ≤ 271 then wg w 100 (64 * (o - 16) + b) else if o = 280 then wg w 144 b else wg w 149 (64 * (o - 300) + b)),
   fun w o b v => if o ≤ 271 then wset w 100 (64 * (o - 16) + b) (kpW v) else if o = 280 then wset w 144 b (kpW v) else wset w 149 (64 * (o - 300) + b) (kpW v),
   fun w i => decide (¬ wg w 152 i = 0),
   fun w i => wg w 150 i)
/-- the entry of a key -/
def entR (w : WR) (m : Nat) (key : List Int) : Option Nat := (List.range (wg w 101 m).toNat).find? fun e => (List.range (wg w 97 m).toNat).all fun k => decide (wg w 102 (256 * m + 16 * e + k) = key.getD k 0)
def idxR (key : List Int) : Nat := (key.getD 0 0 % 256 + key.getD 1 0 % 256 * 256 + key.getD 2 0 % 256 * 65536 + key.getD 3 0 % 256 * 16777216).toNat
/-- the cell of a key -/
def finR (w : WR) (m : Nat) (key : List Int) : Option Nat := if wg w 96 m = 0 then (if (idxR key : Int) < wg w 99 m then some (idxR key) else none) else (entR w m key).map fun e => (wg w 103 (16 * m + e)).toNat
def freR (w : WR) (m : Nat) : Option Nat := (List.range 32).find? fun c => decide (wg w 104 (32 * m + c) = 0)
def putR (w : WR) (m c : Nat) (val : List Int) : WR := wsL w 100 ((32 * m + c) * 64) (val.take (wg w 98 m).toNat)
/-- an UPDATE -/
def updR (w : WR) (m : Nat) (key val : List Int) (f : Int) : WR × Int :=
  if f < 0 ∨ 2 < f then (w, -22)
  else match finR w m key with
    | some c => if f = 1 then (w, -17) else (putR w m c val, 0)
    | none =>
      if wg w 96 m = 0 then (w, -7)
      else if f = 2 then (w, -2)
      else if wg w 101 m = wg w 99 m then (w, -7)
      else match freR w m with
        | none => (w, -12)
        | some c => (putR (wset (wset (wsL (wset w 104 (32 * m + c) 1) 102 (256 * m + 16 * (wg w 101 m).toNat) (key.take (wg w 97 m).toNat)) 103 (16 * m + (wg w 101 m).toNat) c) 101 m (wg w 101 m + 1)) m c val, 0)
/-- a REMOVE, while a run goes (r: 1) or not (0) -/
def remR (w : WR) (m : Nat) (key : List Int) (r : Int) : WR × Int :=
  if wg w 96 m = 0 then (w, -22)
  else match entR w m key with
    | none => (w, -2)
    | some e =>
      let c := 32 * m + (wg w 103 (16 * m + e)).toNat
      let n := (wg w 101 m - 1).toNat
      (wmv (wmv (wset (wset (wset w 104 c r) 105 c r) 101 m (wg w 101 m - 1)) 103 (16 * m + e) (16 * m + n) 1) 102 (256 * m + 16 * e) (256 * m + 16 * n) 16, 0)
def traR (w : WR) : List Int → WR
  | [] => w
  | b :: t => traR (if wg w 80 113 < 2000 then wset (wset w 145 (wg w 80 113).toNat b) 80 113 (wg w 80 113 + 1) else w) t
def chaX (x : B64) : B64 := x * 6364136223846793005#64 + 1442695040888963407#64
def taiR (w : WR) (m : Nat) (x : B64) : Option WR :=
  if ¬ (x.toNat : Int) < wg w 99 m then none
  else if wg w 106 (16 * m + x.toNat) < 0 ∨ wg w 85 (wg w 106 (16 * m + x.toNat)).toNat = 0 ∨ wg w 80 110 = 8 then none
  else some (wset (wset w 80 110 (wg w 80 110 + 1)) 80 122 (wg w 106 (16 * m + x.toNat)))
def pktR (w : WR) (x : B64) (n : Nat) : List B64 × B64 :=
  if (x.toNat : Int) + n ≤ wg w 80 105 then ((List.range n).map fun i => byW (wg w 144 (x.toNat + i)), 0#64) else (List.replicate n 0#64, BitVec.ofInt 64 (-14))
def triR (w : WR) (x : B64) : WR × B64 :=
  let by_ := lI x
  let p := wg w 80 105
  if p < by_ ∨ by_ < 0 ∧ 256 < p - by_ then (w, BitVec.ofInt 64 (-22))
  else (wset (fun k s => if k = 144 ∧ (s : Int) < p - by_ then (if 0 ≤ (s : Int) + by_ then w.1 144 ((s : Int) + by_).toNat else 0) else w.1 k s, w.2) 80 105 (p - by_), 0#64)
/-- the records of a map that are held -/
def hldR (w : WR) (m : Nat) : Nat := ((List.range 64).filter fun i => decide (¬ wg w 152 i = 0 ∧ wg w 151 i = m)).length
def recR (w : WR) (m n : Int) : WR × Option Nat :=
  if wg w 99 m.toNat ≤ wg w 107 m.toNat + hldR w m.toNat then (w, none)
  else match (List.range 64).find? fun i => decide (wg w 152 i = 0) with
    | none => (w, none)
    | some i => (wsL (wset (wset (wset w 152 i 1) 151 i m) 150 i n) 149 (64 * i) (List.replicate 64 0), some i)
def givR (w : WR) (i : Nat) (fin : Bool) : WR :=
  let v := wset w 152 i 0
  if fin = false then v
  else
    let m := (wg w 151 i).toNat
    let k := (wg w 107 m).toNat
    wset (wsL (wset v 108 (16 * m + k) (wg w 150 i)) 109 (1024 * m + 64 * k) ((List.range (wg w 150 i).toNat).map fun j => wg w 149 (64 * i + j))) 107 m (wg w 107 m + 1)
def RH : WH WR :=
  (fun w i => BitVec.ofInt 64 ((if i = 8 then wg w 80 105 else if i = 12 then wg w 80 106 else wg w 80 107) % 4294967296),
   fun w x => wset w 80 106 (lI x),
   fun w m k => (finR w m.toNat (k.map kpW)).filter fun j => decide (j < 32),
   fun w m k v f => ((updR w m.toNat (k.map kpW) (v.map kpW) f.toInt).1, BitVec.ofInt 64 (updR w m.toNat (k.map kpW) (v.map kpW) f.toInt).2),
   fun w m k => ((remR w m.toNat (k.map kpW) 1).1, BitVec.ofInt 64 (remR w m.toNat (k.map kpW) 1).2),
   fun w => w.2.2,
   fun w l => traR w (l.map kpW),
   fun w => ((w.1, chaX w.2.1, w.2.2), chaX w.2.1 >>> 32),
   fun w m x => taiR w m.toNat x,
   fun w x n => pktR w x n,
   fun w x => triR w x,
   fun w m n => recR w m n,
   fun w i b => givR w i b)
/-- each step is counted -/
def RT (w : WR) : WR := (w.1, w.2.1, w.2.2 + 1#64)
/-- what helps: the packet's size, which records are held, their sizes -/
def sm3 (w v : WR) : Prop := (∀ k s, k = 80 → s = 105 → wg v k s = wg w k s) ∧ (∀ s, wg v 152 s = wg w 152 s) ∧ ∀ s, wg v 150 s = wg w 150 s
theorem sm3_B {w v : WR} (h : sm3 w v) : RB.1 v = RB.1 w ∧ RB.2.2.2.1 v = RB.2.2.2.1 w ∧ RB.2.2.2.2 v = RB.2.2.2.2 w := by
  refine ⟨?_, ?_, ?_⟩
  · show min (wg v 80 105).toNat 256 = min (wg w 80 105).toNat 256
    rw [h.1 80 105 rfl rfl]
  · funext i
    show decide (¬ wg v 152 i = 0) = decide (¬ wg w 152 i = 0)
    rw [h.2.1 i]
  · funext i
    exact h.2.2 i
theorem sm3_r (w : WR) : sm3 w w := ⟨fun _ _ _ _ => rfl, fun _ => rfl, fun _ => rfl⟩
theorem sm3_t {a b c : WR} (h1 : sm3 a b) (h2 : sm3 b c) : sm3 a c := ⟨fun k s e1 e2 => (h2.1 k s e1 e2).trans (h1.1 k s e1 e2), fun s => (h2.2.1 s).trans (h1.2.1 s), fun s => (h2.2.2 s).trans (h1.2.2 s)⟩
theorem sm3_set {w : WR} {k s : Nat} {x : Int} (h : ¬ k = 152 ∧ ¬ k = 150 ∧ ¬ (k = 80 ∧ s = 105)) : sm3 w (wset w k s x) := by
  refine ⟨fun k' s' e1 e2 => ?_, fun s' => ?_, fun s' => ?_⟩
  · rw [wg_wset, if_neg (by omega)]
  · rw [wg_wset, if_neg (by omega)]
  · rw [wg_wset, if_neg (by omega)]
theorem sm3_L {w : WR} {k s : Nat} {l : List Int} (h : ¬ k = 152 ∧ ¬ k = 150 ∧ ¬ k = 80) : sm3 w (wsL w k s l) :=
  ⟨fun k' s' e1 e2 => wg_wsL_o (by omega), fun s' => wg_wsL_o (by omega), fun s' => wg_wsL_o (by omega)⟩
theorem sm3_mv {w : WR} {k a b d : Nat} (h : ¬ k = 152 ∧ ¬ k = 150 ∧ ¬ k = 80) : sm3 w (wmv w k a b d) :=
  ⟨fun k' s' e1 e2 => wg_wmv_o (by omega), fun s' => wg_wmv_o (by omega), fun s' => wg_wmv_o (by omega)⟩
theorem sm3_tra : ∀ (l : List Int) (w : WR), sm3 w (traR w l) := by
  intro l
  induction l with
  | nil => intro w; exact sm3_r w
  | cons b l ih =>
    intro w
    unfold traR
    refine sm3_t ?_ (ih _)
    split
    · exact sm3_t (sm3_set (by decide)) (sm3_set (by decide))
    · exact sm3_r w
theorem sm3_upd (w : WR) (m : Nat) (k v : List Int) (f : Int) : sm3 w (updR w m k v f).1 := by
  have p : ∀ (u : WR) (c : Nat), sm3 u (putR u m c v) := fun u c => sm3_L (by decide)
  unfold updR
  split
  · exact sm3_r w
  · split
    · split
      · exact sm3_r w
      · exact p _ _
    · split
      · exact sm3_r w
      · split
        · exact sm3_r w
        · split
          · exact sm3_r w
          · split
            · exact sm3_r w
            · exact sm3_t (sm3_t (sm3_t (sm3_t (sm3_set (by decide)) (sm3_L (by decide))) (sm3_set (by omega))) (sm3_set (by omega))) (p _ _)
theorem sm3_rem (w : WR) (m : Nat) (k : List Int) (r : Int) : sm3 w (remR w m k r).1 := by
  unfold remR
  split
  · exact sm3_r w
  · split
    · exact sm3_r w
    · exact sm3_t (sm3_t (sm3_t (sm3_t (sm3_set (by omega)) (sm3_set (by omega))) (sm3_set (by omega))) (sm3_mv (by omega))) (sm3_mv (by omega))
theorem ofI_lt {x : Int} {n : Nat} (h0 : 0 ≤ x) (h1 : x < n) (hn : n ≤ 18446744073709551616) : (BitVec.ofInt 64 x).toNat < n := by
  rw [BitVec.toNat_ofInt]
  omega
theorem byW_lt (x : Int) : (byW x).toNat < 256 := ofI_lt (n := 256) (Int.emod_nonneg _ (by decide)) (Int.emod_lt_of_pos _ (by decide)) (by decide)
theorem RB_ok : okB RB := by
  refine ⟨fun w o b v => ?_, fun w o b => byW_lt _, fun w => Nat.min_le_right _ _⟩
  refine sm3_B ?_
  show sm3 w (if o ≤ 271 then _ else if o = 280 then _ else _)
  split
  · exact sm3_set (by decide)
  · split
    · exact sm3_set (by decide)
    · exact sm3_set (by decide)
theorem RH_ok : okH RB RH := by
  refine ⟨fun w i => ?_, fun w x => sm3_B (sm3_set (by decide)), fun w m k j h => ?_, fun w m k v f => sm3_B (sm3_upd _ _ _ _ _), fun w m k => sm3_B (sm3_rem _ _ _ _), fun w l => sm3_B (sm3_tra _ _), fun w => ⟨⟨rfl, rfl, rfl⟩, ?_⟩, fun w m x v h => ?_, fun w x n => ?_, fun w x => ?_, fun w m n => ?_, fun w i b => ?_⟩
  · exact ofI_lt (n := 4294967296) (Int.emod_nonneg _ (by decide)) (Int.emod_lt_of_pos _ (by decide)) (by decide)
  · have := (Option.filter_eq_some_iff.mp h).2
    simpa using this
  · show (chaX w.2.1 >>> 32).toNat < 4294967296
    have := (chaX w.2.1).isLt
    rw [BitVec.toNat_ushiftRight, Nat.shiftRight_eq_div_pow]
    omega
  · have h : taiR w m.toNat x = some v := h
    unfold taiR at h
    split at h
    · cases h
    · split at h
      · cases h
      · cases h
        exact (sm3_B (sm3_t (sm3_set (by decide)) (sm3_set (by decide)))).2.1
  · show (pktR w x n).1.length = n ∧ ∀ y ∈ (pktR w x n).1, y.toNat < 256
    unfold pktR
    split
    · refine ⟨by rw [List.length_map, List.length_range], fun y hy => ?_⟩
      obtain ⟨i, _, rfl⟩ := List.mem_map.mp hy
      exact byW_lt _
    · refine ⟨List.length_replicate .., fun y hy => ?_⟩
      have : y = 0#64 := List.eq_of_mem_replicate hy
      rw [this]
      decide
  · show RB.2.2.2.1 (triR w x).1 = RB.2.2.2.1 w ∧ RB.2.2.2.2 (triR w x).1 = RB.2.2.2.2 w
    unfold triR
    simp only
    split
    · exact ⟨rfl, rfl⟩
    · exact ⟨rfl, rfl⟩
  · show RB.1 (recR w m n).1 = RB.1 w ∧ ((recR w m n).2 = none → RB.2.2.2.1 (recR w m n).1 = RB.2.2.2.1 w ∧ RB.2.2.2.2 (recR w m n).1 = RB.2.2.2.2 w) ∧ ∀ i, (recR w m n).2 = some i → i < 64 ∧ RB.2.2.2.1 w i = false ∧ (∀ j, j < 64 → (RB.2.2.2.1 (recR w m n).1 j = true ↔ (j = i ∨ RB.2.2.2.1 w j = true))) ∧ RB.2.2.2.2 (recR w m n).1 i = n ∧ ∀ j, ¬ j = i → RB.2.2.2.2 (recR w m n).1 j = RB.2.2.2.2 w j
    unfold recR
    split
    · exact ⟨rfl, fun _ => ⟨rfl, rfl⟩, fun i h => (by cases h)⟩
    · split
      · exact ⟨rfl, fun _ => ⟨rfl, rfl⟩, fun i h => (by cases h)⟩
      · rename_i i hi
        have li := List.mem_range.mp (List.mem_of_find?_eq_some hi)
        have zi : wg w 152 i = 0 := by simpa using List.find?_some hi
        refine ⟨rfl, fun h => (by cases h), fun i' h => ?_⟩
        cases h
        refine ⟨li, ?_, fun j hj => ?_, ?_, fun j hj => ?_⟩
        · show decide (¬ wg w 152 i = 0) = false
          exact decide_eq_false (not_not_intro zi)
        · show decide (¬ wg (wsL (wset (wset (wset w 152 i 1) 151 i m) 150 i n) 149 (64 * i) (List.replicate 64 0)) 152 j = 0) = true ↔ (j = i ∨ decide (¬ wg w 152 j = 0) = true)
          rw [wg_wsL_o (by decide), wg_wset_o (by decide), wg_wset_o (by decide), wg_wset]
          by_cases e : j = i
          · rw [if_pos ⟨rfl, e⟩]
            simp [e]
          · rw [if_neg (fun q => e q.2)]
            simp [e]
        · show wg (wsL (wset (wset (wset w 152 i 1) 151 i m) 150 i n) 149 (64 * i) (List.replicate 64 0)) 150 i = n
          rw [wg_wsL_o (by decide), wg_wset, if_pos ⟨rfl, rfl⟩]
        · show wg (wsL (wset (wset (wset w 152 i 1) 151 i m) 150 i n) 149 (64 * i) (List.replicate 64 0)) 150 j = wg w 150 j
          rw [wg_wsL_o (by decide), wg_wset, if_neg (fun q => hj q.2), wg_wset_o (by decide), wg_wset_o (by decide)]
  · have key : sm3 (wset w 152 i 0) (givR w i b) := by
      unfold givR
      simp only
      split
      · exact sm3_r _
      · exact sm3_t (sm3_t (sm3_set (by omega)) (sm3_L (by omega))) (sm3_set (by omega))
    have kB := sm3_B key
    refine ⟨kB.1.trans rfl, kB.2.2.trans rfl, fun j hj => ?_⟩
    show RB.2.2.2.1 (givR w i b) j = true ↔ _
    rw [kB.2.1]
    show decide (¬ wg (wset w 152 i 0) 152 j = 0) = true ↔ (¬ j = i ∧ decide (¬ wg w 152 j = 0) = true)
    rw [wg_wset]
    by_cases e : j = i
    · rw [if_pos ⟨rfl, e⟩]
      simp [e]
    · rw [if_neg (fun q => e q.2)]
      simp [e]
theorem RT_ok : okT RB RT := fun _ => ⟨rfl, rfl, rfl⟩
-- FILE 21e.tdc
/-! ===== TIDY leaves constants as they are ===== -/
theorem tdN_cst (c : B64) : tdN (cstN c) = cstN c := by
  have x0 : c ||| 0#64 = c := by simp
  have x1 : ∀ d : B64, 0#64 &&& d = 0#64 := fun d => by simp
  have x2 : c ^^^ c = 0#64 := by simp
  have bm : bmax c c = c := by unfold bmax; split <;> rfl
  have bn : bmin c c = c := by unfold bmin; split <;> rfl
  have sm : smax c c = c := by unfold smax; split <;> rfl
  have sn : smin c c = c := by unfold smin; split <;> rfl
  have b : byB (cstN c) = cstN c := by
    show (c, 0#64, bmax c c, bmin c (c ||| 0#64), smax c (c ||| (0#64 &&& cMin)), smin c (c ||| (0#64 &&& cMax))) = (c, 0#64, c, c, c, c)
    rw [x1, x1, x0, bm, bn, sm, sn]
  have t1 : td1 (cstN c) = cstN c := by
    show (if 0 ≤ c.toInt ∨ c.toInt < 0 then (c, 0#64, bmax c c, bmin c c, c, c) else (c, 0#64, c, c, c, c)) = (c, 0#64, c, c, c, c)
    rw [bm, bn]
    split <;> rfl
  have t2 : td2 (cstN c) = cstN c := by
    show (if (c.toInt < 0 ↔ c.toInt < 0) then (c, 0#64, c, c, smax c c, smin c c) else (c, 0#64, c, c, c, c)) = (c, 0#64, c, c, c, c)
    rw [sm, sn]
    split <;> rfl
  have t3 : td3 (cstN c) = cstN c := by
    show (c ||| (c &&& ~~~ sprd (c ^^^ c)), 0#64 &&& sprd (c ^^^ c), c, c, c, c) = (c, 0#64, c, c, c, c)
    rw [x1]
    have : c ||| (c &&& ~~~ sprd (c ^^^ c)) = c := by
      apply BitVec.eq_of_getLsbD_eq
      intro i hi
      simp only [BitVec.getLsbD_or, BitVec.getLsbD_and]
      cases c.getLsbD i <;> simp
    rw [this]
  unfold tdN
  rw [b, t1, t2, t3, b]
  split <;> rfl
theorem tdN_any : tdN anyN = anyN := by decide +kernel
-- FILE 21f.flip
/-! ===== blocks by hand ===== -/
abbrev cMinI : BitVec 64 := iL (-9223372036854775808)
theorem sgf {tg : Nat → List Ins} {j pc c s k : Nat} {t : List (Int × Nat)} {r : List Ins} {ls : List (Option MV)} {st : List MV} {σ : MS} (h : ao σ c (some k)) : RR tg ((.getfield j, pc, c, s, 1, t) :: r, ls, mR (some k) :: st, σ) = RR tg (r, ls, mL (gL σ k s) :: st, σ) := (RR_ev tg 1 _).trans (if_pos h)
theorem spf {tg : Nat → List Ins} {j pc c s k : Nat} {t : List (Int × Nat)} {r : List Ins} {ls : List (Option MV)} {st : List MV} {σ : MS} {v : BitVec 64} (h : ao σ c (some k)) : RR tg ((.putfield j, pc, c, s, 1, t) :: r, ls, mL v :: mR (some k) :: st, σ) = RR tg (r, ls, st, sL σ k s v) := (RR_ev tg 1 _).trans (if_pos h)
theorem flip_lt (a b : BitVec 64) : (a + cMinI).toInt ≤ (b + cMinI).toInt ↔ ¬ b < a := by
  rw [toInt_flip, toInt_flip, BitVec.lt_def]
  omega
theorem flip_lt2 (a b : BitVec 64) : (a + cMinI).toInt < (b + cMinI).toInt ↔ a < b := by
  rw [toInt_flip, toInt_flip, BitVec.lt_def]
  omega
set_option maxRecDepth 100000 in
theorem M17 {x0 x2 : BitVec 64} {σ : MS} : MM 17 [mL x0, mL x2] σ = RR (lkB tb17) (B17_0, [some (mL x0), none, some (mL x2), none], [], σ) := rfl
theorem e17_0 {x0 x2 : BitVec 64} {σ : MS} : RR (lkB tb17) (B17_0, [some (mL x0), none, some (mL x2), none], [], σ) = (if ¬ x0 < x2 then some (some (mI 0), σ) else some (some (mI 1), σ)) := by
  have A : RR (lkB tb17) (B17_0, [some (mL x0), none, some (mL x2), none], [], σ) = RR (lkB tb17) (B17_0.drop 3, [some (mL x0), none, some (mL x2), none], [mL cMinI, mL x0], σ) := RR_ev _ 3 _
  have B : ∀ c : BitVec 64, RR (lkB tb17) (B17_0.drop 3, [some (mL x0), none, some (mL x2), none], [mL c, mL x0], σ) = RR (lkB tb17) (B17_0.drop 6, [some (mL x0), none, some (mL x2), none], [mL cMinI, mL x2, mL (x0 + c)], σ) := fun c => RR_ev _ 3 _
  have C : ∀ c y : BitVec 64, RR (lkB tb17) (B17_0.drop 6, [some (mL x0), none, some (mL x2), none], [mL c, mL x2, mL y], σ) = (if BitVec.toInt (x2 + c) ≤ BitVec.toInt y then some (some (mI 0), σ) else some (some (mI 1), σ)) := fun c y => RR_ev _ 6 _
  rw [A, B, C]
  simp only [flip_lt]
set_option maxRecDepth 100000 in
theorem M389 {x0 x2 : BitVec 64} {σ : MS} : MM 389 [mL x0, mL x2] σ = RR (lkB tb389) (B389_0, [some (mL x0), none, some (mL x2), none], [], σ) := rfl
theorem e389_0 {x0 x2 : BitVec 64} {σ : MS} : RR (lkB tb389) (B389_0, [some (mL x0), none, some (mL x2), none], [], σ) = (if ¬ x0 < x2 then some (some (mI 0), σ) else some (some (mI 1), σ)) := by
  have A : RR (lkB tb389) (B389_0, [some (mL x0), none, some (mL x2), none], [], σ) = RR (lkB tb389) (B389_0.drop 3, [some (mL x0), none, some (mL x2), none], [mL cMinI, mL x0], σ) := RR_ev _ 3 _
  have B : ∀ c : BitVec 64, RR (lkB tb389) (B389_0.drop 3, [some (mL x0), none, some (mL x2), none], [mL c, mL x0], σ) = RR (lkB tb389) (B389_0.drop 6, [some (mL x0), none, some (mL x2), none], [mL cMinI, mL x2, mL (x0 + c)], σ) := fun c => RR_ev _ 3 _
  have C : ∀ c y : BitVec 64, RR (lkB tb389) (B389_0.drop 6, [some (mL x0), none, some (mL x2), none], [mL c, mL x2, mL y], σ) = (if BitVec.toInt (x2 + c) ≤ BitVec.toInt y then some (some (mI 0), σ) else some (some (mI 1), σ)) := fun c y => RR_ev _ 6 _
  rw [A, B, C]
  simp only [flip_lt]
set_option maxRecDepth 100000 in
theorem M70 {x0 x2 : BitVec 64} {σ : MS} : MM 70 [mL x0, mL x2] σ = RR (lkB tb70) (B70_0, [some (mL x0), none, some (mL x2), none], [], σ) := rfl
theorem e70_0 {x0 x2 : BitVec 64} {σ : MS} : RR (lkB tb70) (B70_0, [some (mL x0), none, some (mL x2), none], [], σ) = (if ¬ x0 < x2 then some (some (mL x0), σ) else some (some (mL x2), σ)) := by
  have A : RR (lkB tb70) (B70_0, [some (mL x0), none, some (mL x2), none], [], σ) = RR (lkB tb70) (B70_0.drop 3, [some (mL x0), none, some (mL x2), none], [mL cMinI, mL x0], σ) := RR_ev _ 3 _
  have B : ∀ c : BitVec 64, RR (lkB tb70) (B70_0.drop 3, [some (mL x0), none, some (mL x2), none], [mL c, mL x0], σ) = RR (lkB tb70) (B70_0.drop 6, [some (mL x0), none, some (mL x2), none], [mL cMinI, mL x2, mL (x0 + c)], σ) := fun c => RR_ev _ 3 _
  have C : ∀ c y : BitVec 64, RR (lkB tb70) (B70_0.drop 6, [some (mL x0), none, some (mL x2), none], [mL c, mL x2, mL y], σ) = (if BitVec.toInt (x2 + c) ≤ BitVec.toInt y then some (some (mL x0), σ) else some (some (mL x2), σ)) := fun c y => RR_ev _ 6 _
  rw [A, B, C]
  simp only [flip_lt]
set_option maxRecDepth 100000 in
theorem M71 {x0 x2 : BitVec 64} {σ : MS} : MM 71 [mL x0, mL x2] σ = RR (lkB tb71) (B71_0, [some (mL x0), none, some (mL x2), none], [], σ) := rfl
theorem e71_0 {x0 x2 : BitVec 64} {σ : MS} : RR (lkB tb71) (B71_0, [some (mL x0), none, some (mL x2), none], [], σ) = (if ¬ x0 < x2 then some (some (mL x2), σ) else some (some (mL x0), σ)) := by
  have A : RR (lkB tb71) (B71_0, [some (mL x0), none, some (mL x2), none], [], σ) = RR (lkB tb71) (B71_0.drop 3, [some (mL x0), none, some (mL x2), none], [mL cMinI, mL x0], σ) := RR_ev _ 3 _
  have B : ∀ c : BitVec 64, RR (lkB tb71) (B71_0.drop 3, [some (mL x0), none, some (mL x2), none], [mL c, mL x0], σ) = RR (lkB tb71) (B71_0.drop 6, [some (mL x0), none, some (mL x2), none], [mL cMinI, mL x2, mL (x0 + c)], σ) := fun c => RR_ev _ 3 _
  have C : ∀ c y : BitVec 64, RR (lkB tb71) (B71_0.drop 6, [some (mL x0), none, some (mL x2), none], [mL c, mL x2, mL y], σ) = (if BitVec.toInt (x2 + c) ≤ BitVec.toInt y then some (some (mL x2), σ) else some (some (mL x0), σ)) := fun c y => RR_ev _ 6 _
  rw [A, B, C]
  simp only [flip_lt]
theorem T17 {x0 x2 : BitVec 64} {σ : MS} : MM 17 [mL x0, mL x2] σ = some (some (mI (b2 (x0 < x2))), σ) := by
  rw [M17, e17_0]
  unfold b2
  split <;> split <;> first | rfl | (rename_i h1 h2; exact absurd h2 h1)  | (rename_i h1 h2; exact absurd h1 (fun q => q h2)) | simp_all
theorem T389 {x0 x2 : BitVec 64} {σ : MS} : MM 389 [mL x0, mL x2] σ = some (some (mI (b2 (x0 < x2))), σ) := by
  rw [M389, e389_0]
  unfold b2
  split <;> split <;> first | rfl | simp_all
theorem T70 {x0 x2 : BitVec 64} {σ : MS} : MM 70 [mL x0, mL x2] σ = some (some (mL (bmax x0 x2)), σ) := by
  rw [M70, e70_0]
  unfold bmax
  split <;> split <;> first | rfl | simp_all
theorem T71 {x0 x2 : BitVec 64} {σ : MS} : MM 71 [mL x0, mL x2] σ = some (some (mL (bmin x0 x2)), σ) := by
  rw [M71, e71_0]
  unfold bmin
  split <;> split <;> first | rfl | simp_all
set_option maxRecDepth 100000 in
theorem M72 {x0 : Option Nat} {σ : MS} : MM 72 [mR x0] σ = RR (lkB tb72) (B72_0, [some (mR x0)], [], σ) := rfl
theorem e72_0 {k : Nat} {σ : MS} (h : ao σ 2 (some k)) : RR (lkB tb72) (B72_0, [some (mR (some k))], [], σ) = RR (lkB tb72) (B72_32, [some (mR (some k))], [mL (bmax (gL σ k 2) (gL σ k 0)), mR (some k)], σ) := by
  have A : RR (lkB tb72) (B72_0, [some (mR (some k))], [], σ) = RR (lkB tb72) ((.getfield 18, 2, 2, 2, 1, []) :: B72_0.drop 4, [some (mR (some k))], [mR (some k), mR (some k)], σ) := RR_ev _ 3 _
  have B : RR (lkB tb72) (B72_0.drop 4, [some (mR (some k))], [mL (gL σ k 2), mR (some k)], σ) = RR (lkB tb72) (B72_0.drop 5, [some (mR (some k))], [mL cMinI, mL (gL σ k 2), mR (some k)], σ) := RR_ev _ 1 _
  have C : ∀ c : BitVec 64, RR (lkB tb72) (B72_0.drop 5, [some (mR (some k))], [mL c, mL (gL σ k 2), mR (some k)], σ) = RR (lkB tb72) ((.getfield 9, 10, 2, 0, 1, []) :: B72_0.drop 8, [some (mR (some k))], [mR (some k), mL (gL σ k 2 + c), mR (some k)], σ) := fun c => RR_ev _ 2 _
  have D : ∀ y : BitVec 64, RR (lkB tb72) (B72_0.drop 8, [some (mR (some k))], [mL (gL σ k 0), mL y, mR (some k)], σ) = RR (lkB tb72) (B72_0.drop 9, [some (mR (some k))], [mL cMinI, mL (gL σ k 0), mL y, mR (some k)], σ) := fun y => RR_ev _ 1 _
  have E : ∀ c y : BitVec 64, RR (lkB tb72) (B72_0.drop 9, [some (mR (some k))], [mL c, mL (gL σ k 0), mL y, mR (some k)], σ) = (if BitVec.toInt (gL σ k 0 + c) ≤ BitVec.toInt y then RR (lkB tb72) (B72_28, [some (mR (some k))], [mR (some k)], σ) else RR (lkB tb72) (B72_0.drop 12, [some (mR (some k))], [mR (some k)], σ)) := fun c y => RR_ev _ 2 _
  have F : RR (lkB tb72) (B72_28, [some (mR (some k))], [mR (some k)], σ) = RR (lkB tb72) ((.getfield 18, 29, 2, 2, 1, []) :: B72_32, [some (mR (some k))], [mR (some k), mR (some k)], σ) := RR_ev _ 1 _
  have G : RR (lkB tb72) (B72_0.drop 12, [some (mR (some k))], [mR (some k)], σ) = RR (lkB tb72) ((.getfield 9, 22, 2, 0, 1, []) :: B72_0.drop 14, [some (mR (some k))], [mR (some k), mR (some k)], σ) := RR_ev _ 1 _
  have I : RR (lkB tb72) (B72_0.drop 14, [some (mR (some k))], [mL (gL σ k 0), mR (some k)], σ) = RR (lkB tb72) (B72_32, [some (mR (some k))], [mL (gL σ k 0), mR (some k)], σ) := RR_ev _ 1 _
  rw [A, sgf h, B, C, sgf h, D, E, F, G, sgf h, sgf h, I]
  simp only [flip_lt]
  unfold bmax
  split <;> split <;> first | rfl | simp_all
theorem e72_32 {k : Nat} {σ : MS} {y1 : BitVec 64} (h : ao σ 2 (some k)) : RR (lkB tb72) (B72_32, [some (mR (some k))], [mL y1, mR (some k)], σ) = RR (lkB tb72) (B72_77, [some (mR (some k))], [mL (bmin (gL (sL σ k 2 y1) k 3) (gL (sL σ k 2 y1) k 0 ||| gL (sL σ k 2 y1) k 1)), mR (some k)], sL σ k 2 y1) := by
  have A : RR (lkB tb72) (B72_32, [some (mR (some k))], [mL y1, mR (some k)], σ) = RR (lkB tb72) ((.putfield 18, 32, 2, 2, 1, []) :: B72_32.drop 2, [some (mR (some k))], [mL y1, mR (some k)], σ) := RR_ev _ 1 _
  rw [A, spf h]
  have h : ao (sL σ k 2 y1) 2 (some k) := h
  generalize sL σ k 2 y1 = σ at h ⊢
  have A : RR (lkB tb72) (B72_32.drop 2, [some (mR (some k))], [], σ) = RR (lkB tb72) ((.getfield 21, 37, 2, 3, 1, []) :: B72_32.drop 5, [some (mR (some k))], [mR (some k), mR (some k)], σ) := RR_ev _ 2 _
  have B : RR (lkB tb72) (B72_32.drop 5, [some (mR (some k))], [mL (gL σ k 3), mR (some k)], σ) = RR (lkB tb72) (B72_32.drop 6, [some (mR (some k))], [mL cMinI, mL (gL σ k 3), mR (some k)], σ) := RR_ev _ 1 _
  have C : ∀ c : BitVec 64, RR (lkB tb72) (B72_32.drop 6, [some (mR (some k))], [mL c, mL (gL σ k 3), mR (some k)], σ) = RR (lkB tb72) ((.getfield 9, 45, 2, 0, 1, []) :: B72_32.drop 9, [some (mR (some k))], [mR (some k), mL (gL σ k 3 + c), mR (some k)], σ) := fun c => RR_ev _ 2 _
  have D : ∀ y : BitVec 64, RR (lkB tb72) (B72_32.drop 9, [some (mR (some k))], [mL (gL σ k 0), mL y, mR (some k)], σ) = RR (lkB tb72) ((.getfield 15, 49, 2, 1, 1, []) :: B72_32.drop 11, [some (mR (some k))], [mR (some k), mL (gL σ k 0), mL y, mR (some k)], σ) := fun y => RR_ev _ 1 _
  have D2 : ∀ y : BitVec 64, RR (lkB tb72) (B72_32.drop 11, [some (mR (some k))], [mL (gL σ k 1), mL (gL σ k 0), mL y, mR (some k)], σ) = RR (lkB tb72) (B72_32.drop 13, [some (mR (some k))], [mL cMinI, mL (gL σ k 0 ||| gL σ k 1), mL y, mR (some k)], σ) := fun y => RR_ev _ 2 _
  have E : ∀ c y z : BitVec 64, RR (lkB tb72) (B72_32.drop 13, [some (mR (some k))], [mL c, mL z, mL y, mR (some k)], σ) = (if BitVec.toInt (z + c) ≤ BitVec.toInt y then RR (lkB tb72) (B72_68, [some (mR (some k))], [mR (some k)], σ) else RR (lkB tb72) (B72_32.drop 16, [some (mR (some k))], [mR (some k)], σ)) := fun c y z => RR_ev _ 2 _
  have F : RR (lkB tb72) (B72_68, [some (mR (some k))], [mR (some k)], σ) = RR (lkB tb72) ((.getfield 9, 69, 2, 0, 1, []) :: B72_68.drop 2, [some (mR (some k))], [mR (some k), mR (some k)], σ) := RR_ev _ 1 _
  have F2 : RR (lkB tb72) (B72_68.drop 2, [some (mR (some k))], [mL (gL σ k 0), mR (some k)], σ) = RR (lkB tb72) ((.getfield 15, 73, 2, 1, 1, []) :: B72_68.drop 4, [some (mR (some k))], [mR (some k), mL (gL σ k 0), mR (some k)], σ) := RR_ev _ 1 _
  have F3 : RR (lkB tb72) (B72_68.drop 4, [some (mR (some k))], [mL (gL σ k 1), mL (gL σ k 0), mR (some k)], σ) = RR (lkB tb72) (B72_77, [some (mR (some k))], [mL (gL σ k 0 ||| gL σ k 1), mR (some k)], σ) := RR_ev _ 1 _
  have G : RR (lkB tb72) (B72_32.drop 16, [some (mR (some k))], [mR (some k)], σ) = RR (lkB tb72) ((.getfield 21, 62, 2, 3, 1, []) :: B72_32.drop 18, [some (mR (some k))], [mR (some k), mR (some k)], σ) := RR_ev _ 1 _
  have I : RR (lkB tb72) (B72_32.drop 18, [some (mR (some k))], [mL (gL σ k 3), mR (some k)], σ) = RR (lkB tb72) (B72_77, [some (mR (some k))], [mL (gL σ k 3), mR (some k)], σ) := RR_ev _ 1 _
  rw [A, sgf h, B, C, sgf h, D, sgf h, D2, E, F, sgf h, F2, sgf h, F3, G, sgf h, I]
  simp only [flip_lt]
  unfold bmin
  split <;> split <;> first | rfl | simp_all
theorem e73_173 {k : Nat} {x1 : BitVec 64} {σ : MS} (h : ao σ 2 (some k)) : RR (lkB tb73) (B73_173, [some (mR (some k)), some (mL x1), none], [], σ) = if gL σ k 3 < gL σ k 2 then RR (lkB tb73) (B73_209, [some (mR (some k)), some (mL x1), none], [], σ) else if (gL σ k 5).toInt < (gL σ k 4).toInt then RR (lkB tb73) (B73_209, [some (mR (some k)), some (mL x1), none], [], σ) else some (some (mI 1), σ) := by
  have A : RR (lkB tb73) (B73_173, [some (mR (some k)), some (mL x1), none], [], σ) = RR (lkB tb73) ((.getfield 18, 174, 2, 2, 1, []) :: B73_173.drop 3, [some (mR (some k)), some (mL x1), none], [mR (some k)], σ) := RR_ev _ 2 _
  have B : RR (lkB tb73) (B73_173.drop 3, [some (mR (some k)), some (mL x1), none], [mL (gL σ k 2)], σ) = RR (lkB tb73) (B73_173.drop 4, [some (mR (some k)), some (mL x1), none], [mL cMinI, mL (gL σ k 2)], σ) := RR_ev _ 1 _
  have C : ∀ c : BitVec 64, RR (lkB tb73) (B73_173.drop 4, [some (mR (some k)), some (mL x1), none], [mL c, mL (gL σ k 2)], σ) = RR (lkB tb73) ((.getfield 21, 182, 2, 3, 1, []) :: B73_173.drop 7, [some (mR (some k)), some (mL x1), none], [mR (some k), mL (gL σ k 2 + c)], σ) := fun c => RR_ev _ 2 _
  have D : ∀ y : BitVec 64, RR (lkB tb73) (B73_173.drop 7, [some (mR (some k)), some (mL x1), none], [mL (gL σ k 3), mL y], σ) = RR (lkB tb73) (B73_173.drop 8, [some (mR (some k)), some (mL x1), none], [mL cMinI, mL (gL σ k 3), mL y], σ) := fun y => RR_ev _ 1 _
  have E : ∀ c y : BitVec 64, RR (lkB tb73) (B73_173.drop 8, [some (mR (some k)), some (mL x1), none], [mL c, mL (gL σ k 3), mL y], σ) = (if BitVec.toInt (gL σ k 3 + c) < BitVec.toInt y then RR (lkB tb73) (B73_209, [some (mR (some k)), some (mL x1), none], [], σ) else RR (lkB tb73) (B73_173.drop 11, [some (mR (some k)), some (mL x1), none], [], σ)) := fun c y => RR_ev _ 2 _
  have F : RR (lkB tb73) (B73_173.drop 11, [some (mR (some k)), some (mL x1), none], [], σ) = RR (lkB tb73) ((.getfield 24, 194, 2, 4, 1, []) :: B73_173.drop 13, [some (mR (some k)), some (mL x1), none], [mR (some k)], σ) := RR_ev _ 1 _
  have F2 : RR (lkB tb73) (B73_173.drop 13, [some (mR (some k)), some (mL x1), none], [mL (gL σ k 4)], σ) = RR (lkB tb73) ((.getfield 27, 198, 2, 5, 1, []) :: B73_173.drop 15, [some (mR (some k)), some (mL x1), none], [mR (some k), mL (gL σ k 4)], σ) := RR_ev _ 1 _
  have F3 : RR (lkB tb73) (B73_173.drop 15, [some (mR (some k)), some (mL x1), none], [mL (gL σ k 5), mL (gL σ k 4)], σ) = (if BitVec.toInt (gL σ k 5) < BitVec.toInt (gL σ k 4) then RR (lkB tb73) (B73_209, [some (mR (some k)), some (mL x1), none], [], σ) else some (some (mI 1), σ)) := RR_ev _ 5 _
  rw [A, sgf h, B, C, sgf h, D, E, F, sgf h, F2, sgf h, F3]
  simp only [flip_lt2]
-- FILE 21g.form
/-! ===== FORM and PLACE, as such ===== -/
section FP
variable {p : Nat → B64} {n : Nat}
def spn (p : Nat → B64) (n i : Nat) : Nat := if fOp (p i) = 24 then (if i + 1 < n ∧ okPr (p i) (p (i + 1)) then 2 else 0) else if okPl (p i) then 1 else 0
/-- the first word that is no instruction; where instructions begin -/
def frmP (p : Nat → B64) (n : Nat) : Nat → Nat → (Nat → Bool) → Option Nat × (Nat → Bool)
  | 0, _, S => (none, S)
  | f + 1, i, S => if n ≤ i then (none, S) else if spn p n i = 0 then (some i, S) else frmP p n f (i + spn p n i) (fun j => if j = i then true else S j)
abbrev isCal (w : B64) : Prop := fOp w = 133 ∧ fS w = 1
abbrev ledO (w : B64) : Prop := fOp w = 5 ∨ fOp w = 6 ∨ (fL w = 5 ∨ fL w = 6) ∧ isCmpO (fOp w)
/-- where a function begins -/
def bgnP (p : Nat → B64) (n : Nat) (S : Nat → Bool) (j : Nat) : Bool := decide (j = 0) || (decide (j < n) && S j && (List.range n).any fun i => S i && decide (isCal (p i) ∧ goal i (p i) = j))
def fnoP (B : Nat → Bool) : Nat → Nat
  | 0 => 0
  | i + 1 => if B (i + 1) = true then i + 1 else fnoP B i
abbrev isTh (n : Nat) (S : Nat → Bool) (g : Int) : Prop := (0 ≤ g ∧ g < n) ∧ S g.toNat = true
def godP (p : Nat → B64) (n : Nat) (S : Nat → Bool) (i : Nat) : Prop :=
  (ledO (p i) ∨ isCal (p i) → isTh n S (goal i (p i))) ∧ (ledO (p i) → fnoP (bgnP p n S) (goal i (p i)).toNat = fnoP (bgnP p n S) i)
  ∧ (n ≤ i + spn p n i ∨ bgnP p n S (i + spn p n i) = true → fOp (p i) = 149 ∨ fOp (p i) = 5 ∨ fOp (p i) = 6)
def joiP (p : Nat → B64) (n : Nat) (S : Nat → Bool) (j : Int) : Bool := (List.range n).any fun i => S i && decide (ledO (p i) ∧ goal i (p i) = j)
theorem spn_le (i : Nat) : spn p n i ≤ 2 := by
  unfold spn
  repeat' split
  all_goals omega
theorem frm_s : ∀ (f i : Nat) (S0 S : Nat → Bool), frmP p n f i S0 = (none, S) → n ≤ i + f → (∀ j, S0 j = true → S j = true) ∧ (i < n → S i = true) ∧ (∀ j, S j = true → S0 j = true ∨ (i ≤ j ∧ j < n ∧ ¬ spn p n j = 0 ∧ (j + spn p n j < n → S (j + spn p n j) = true))) := by
  intro f
  induction f with
  | zero =>
    intro i S0 S h hf
    cases h
    exact ⟨fun j h => h, fun h => by omega, fun j h => Or.inl h⟩
  | succ f ih =>
    intro i S0 S h hf
    unfold frmP at h
    by_cases c : n ≤ i
    · rw [if_pos c] at h
      cases h
      exact ⟨fun j h => h, fun h => by omega, fun j h => Or.inl h⟩
    · rw [if_neg c] at h
      by_cases z : spn p n i = 0
      · rw [if_pos z] at h
        cases h
      · rw [if_neg z] at h
        obtain ⟨a1, a2, a3⟩ := ih _ _ _ h (by omega)
        refine ⟨fun j hj => a1 j ?_, fun _ => a1 i ?_, fun j hj => ?_⟩
        · show (if j = i then true else S0 j) = true
          split
          · rfl
          · exact hj
        · show (if i = i then true else S0 i) = true
          rw [if_pos rfl]
        · rcases a3 j hj with q | q
          · have q : (if j = i then true else S0 j) = true := q
            by_cases e : j = i
            · subst e
              exact Or.inr ⟨Nat.le_refl _, by omega, z, a2⟩
            · rw [if_neg e] at q
              exact Or.inl q
          · exact Or.inr ⟨by omega, q.2⟩
/-- the words at which instructions begin -/
def GP (n : Nat) (S : Nat → Bool) (i : Int) : Prop := isTh n S i
theorem okP_of {S : Nat → Bool} (hf : frmP p n (n + 1) 0 (fun _ => false) = (none, S)) (hg : ∀ i, i < n → S i = true → godP p n S i) : okP (GP n S) (fun i => p i.toNat) := by
  obtain ⟨-, -, s3⟩ := frm_s _ _ _ _ hf (by omega)
  intro i hi
  obtain ⟨⟨i1, i2⟩, i3⟩ := hi
  obtain ⟨m, rfl⟩ : ∃ m : Nat, i = m := ⟨i.toNat, by omega⟩
  rw [Int.toNat_natCast] at i3
  have lt : m < n := by omega
  obtain ⟨-, -, b1, b2⟩ := (s3 m i3).resolve_left (fun q => by cases q)
  obtain ⟨g1, g2, g3⟩ := hg m lt i3
  have e1 : ((m : Int) + 1).toNat = m + 1 := by omega
  show okI (p (m : Int).toNat) (p ((m : Int) + 1).toNat) ∧ (fL (p (m : Int).toNat) = 0 → GP n S ((m : Int) + 2)) ∧ (¬ fL (p (m : Int).toNat) = 0 → ¬ fOp (p (m : Int).toNat) = 149 → ¬ fOp (p (m : Int).toNat) = 5 → ¬ fOp (p (m : Int).toNat) = 6 → GP n S ((m : Int) + 1)) ∧ ((fL (p (m : Int).toNat) = 5 ∨ fL (p (m : Int).toNat) = 6) → ¬ fOp (p (m : Int).toNat) = 149 → (fOp (p (m : Int).toNat) = 133 → fS (p (m : Int).toNat) = 1) → GP n S (goal (m : Int) (p (m : Int).toNat)))
  rw [e1, Int.toNat_natCast]
  have key : ∀ k, spn p n m = k → (fOp (p m) = 149 ∨ fOp (p m) = 5 ∨ fOp (p m) = 6) ∨ GP n S ((m : Int) + k) := fun k hk => by
    rw [hk] at b2 g3
    by_cases c : n ≤ m + k ∨ bgnP p n S (m + k) = true
    · exact Or.inl (g3 c)
    · have l2 : m + k < n := by omega
      exact Or.inr ⟨⟨by omega, by omega⟩, by rw [show ((m : Int) + k).toNat = m + k by omega]; exact b2 l2⟩
  by_cases c24 : fOp (p m) = 24
  · have l0 : fL (p m) = 0 := by unfold fL; omega
    have s2 : m + 1 < n ∧ okPr (p m) (p (m + 1)) := by
      refine Decidable.byContradiction fun q => b1 ?_
      unfold spn
      rw [if_pos c24, if_neg q]
    have sp : spn p n m = 2 := by
      unfold spn
      rw [if_pos c24, if_pos s2]
    refine ⟨Or.inl ⟨l0, s2.2⟩, fun _ => (key 2 sp).resolve_left (by omega), fun q => absurd l0 q, fun q => by omega⟩
  · have pl : okPl (p m) := by
      refine Decidable.byContradiction fun q => b1 ?_
      unfold spn
      rw [if_neg c24, if_neg q]
    have sp : spn p n m = 1 := by
      unfold spn
      rw [if_neg c24, if_pos pl]
    have l0 : ¬ fL (p m) = 0 := fun q => by
      unfold okPl at pl
      rw [if_pos q] at pl
      exact pl
    refine ⟨Or.inr pl, fun q => absurd q l0, fun _ x1 x2 x3 => (key 1 sp).resolve_left (by omega), fun l56 x1 x2 => g1 ?_⟩
    by_cases c133 : fOp (p m) = 133
    · exact Or.inr ⟨c133, x2 c133⟩
    · left
      unfold okPl at pl
      rw [if_neg l0, if_neg (by omega), if_pos l56] at pl
      unfold okJmp at pl
      by_cases c5 : fOp (p m) = 5
      · exact Or.inl c5
      · by_cases c6 : fOp (p m) = 6
        · exact Or.inr (Or.inl c6)
        · rw [if_neg c5, if_neg c6, if_neg c133, if_neg x1] at pl
          exact Or.inr (Or.inr ⟨l56, pl.1.1⟩)
end FP
-- FILE 22.wv
/-! ===== VALUES of the reference, at a place of its arrays ===== -/
theorem ms_ext {σ τ : MS} (h1 : ∀ k s, gI σ k s = gI τ k s) (h2 : ∀ k s, gL σ k s = gL τ k s) (h3 : σ.2.2 = τ.2.2) : σ = τ := by
  obtain ⟨a, b, c⟩ := σ
  obtain ⟨a', b', c'⟩ := τ
  have e1 : a = a' := funext fun k => funext fun s => h1 k s
  have e2 : b = b' := funext fun k => funext fun s => h2 k s
  have e3 : c = c' := h3
  rw [e1, e2, e3]
def aV (σ : MS) (i : Nat) : VL := (gI σ 118 i, rNv σ i, gI σ 119 i, gI σ 120 i, gI σ 122 i, gI σ 121 i)
def wK (σ : MS) (i : Nat) (k o w t r : Int) : MS := sI (sI (sI (sI (sI σ 118 i k) 119 i o) 120 i w) 121 i t) 122 i r
def wrV (σ : MS) (i : Nat) (v : VL) : MS := wN (wK σ i (vk v) (vo v) (vw v) (vt v) (vr v)) i (vn v)
abbrev vK (v : VL) (x : Int) : VL := (x, v.2)
abbrev vN (v : VL) (n : N6) : VL := (v.1, n, v.2.2)
abbrev vO (v : VL) (x : Int) : VL := (v.1, v.2.1, x, v.2.2.2)
abbrev vW (v : VL) (x : Int) : VL := (v.1, v.2.1, v.2.2.1, x, v.2.2.2.2)
abbrev vR (v : VL) (x : Int) : VL := (v.1, v.2.1, v.2.2.1, v.2.2.2.1, x, v.2.2.2.2.2)
abbrev vT (v : VL) (x : Int) : VL := (v.1, v.2.1, v.2.2.1, v.2.2.2.1, v.2.2.2.2.1, x)
section WV
variable {σ : MS} {i j k s : Nat} {v u : VL} {n : N6} {x : Int} {y : B64}
theorem gI_wrV : gI (wrV σ i v) k s = if k = 122 ∧ s = i then vr v else if k = 121 ∧ s = i then vt v else if k = 120 ∧ s = i then vw v else if k = 119 ∧ s = i then vo v else if k = 118 ∧ s = i then vk v else gI σ k s := rfl
theorem gL_wrV : gL (wrV σ i v) k s = if k = 117 ∧ s = i then jD (vn v) else if k = 116 ∧ s = i then jC (vn v) else if k = 115 ∧ s = i then jB (vn v) else if k = 114 ∧ s = i then jA (vn v) else if k = 113 ∧ s = i then jM (vn v) else if k = 112 ∧ s = i then jV (vn v) else gL σ k s := rfl
theorem rest_wrV : (wrV σ i v).2.2 = σ.2.2 := rfl
theorem gR_wrV : gR (wrV σ i v) k s = gR σ k s := rfl
theorem kd_wrV : kd (wrV σ i v) k = kd σ k := rfl
theorem nC_wrV : nC (wrV σ i v) = nC σ := rfl
theorem ab_wrV {ty : Nat} {z : Int} : ab (wrV σ i v) ty k z = ab σ ty k z := rfl
theorem ao_wrV {c : Nat} {z : Option Nat} : ao (wrV σ i v) c z = ao σ c z := rfl
theorem gI_wrV_o (h : ¬ (118 ≤ k ∧ k ≤ 122)) : gI (wrV σ i v) k s = gI σ k s := by
  rw [gI_wrV, if_neg (by omega), if_neg (by omega), if_neg (by omega), if_neg (by omega), if_neg (by omega)]
theorem gL_wrV_o (h : ¬ (112 ≤ k ∧ k ≤ 117)) : gL (wrV σ i v) k s = gL σ k s := by
  rw [gL_wrV, if_neg (by omega), if_neg (by omega), if_neg (by omega), if_neg (by omega), if_neg (by omega), if_neg (by omega)]
theorem gI_wrV_s (h : ¬ s = i) : gI (wrV σ i v) k s = gI σ k s := by
  rw [gI_wrV, if_neg (fun q => h q.2), if_neg (fun q => h q.2), if_neg (fun q => h q.2), if_neg (fun q => h q.2), if_neg (fun q => h q.2)]
theorem gL_wrV_s (h : ¬ s = i) : gL (wrV σ i v) k s = gL σ k s := by
  rw [gL_wrV, if_neg (fun q => h q.2), if_neg (fun q => h q.2), if_neg (fun q => h q.2), if_neg (fun q => h q.2), if_neg (fun q => h q.2), if_neg (fun q => h q.2)]
theorem aV_same : aV (wrV σ i v) i = v := by
  unfold aV rNv
  simp [gI_wrV, gL_wrV]
theorem aV_ne (h : ¬ j = i) : aV (wrV σ i v) j = aV σ j := by
  unfold aV rNv
  rw [gI_wrV_s h, gI_wrV_s h, gI_wrV_s h, gI_wrV_s h, gI_wrV_s h, gL_wrV_s h, gL_wrV_s h, gL_wrV_s h, gL_wrV_s h, gL_wrV_s h, gL_wrV_s h]
theorem aV_wrV : aV (wrV σ i v) j = if j = i then v else aV σ j := by
  by_cases h : j = i
  · rw [if_pos h, h, aV_same]
  · rw [if_neg h, aV_ne h]
theorem wrV_same : wrV (wrV σ i v) i u = wrV σ i u := by
  refine ms_ext (fun k s => ?_) (fun k s => ?_) rfl
  · rw [gI_wrV, gI_wrV, gI_wrV]
    repeat' split
    all_goals rfl
  · rw [gL_wrV, gL_wrV, gL_wrV]
    repeat' split
    all_goals rfl
theorem wrV_eta : wrV σ i (aV σ i) = σ := by
  refine ms_ext (fun k s => ?_) (fun k s => ?_) rfl
  · rw [gI_wrV]
    repeat' split
    all_goals first | rfl | (rename_i h; rw [h.1, h.2]; rfl)
  · rw [gL_wrV]
    repeat' split
    all_goals first | rfl | (rename_i h; rw [h.1, h.2]; rfl)
theorem wrV_comm (h : ¬ j = i) : wrV (wrV σ i v) j u = wrV (wrV σ j u) i v := by
  refine ms_ext (fun k s => ?_) (fun k s => ?_) rfl
  · by_cases e : s = i
    · rw [gI_wrV_s (i := j) (by omega), gI_wrV, gI_wrV (σ := wrV σ j u), gI_wrV_s (i := j) (by omega)]
    · rw [gI_wrV_s (σ := wrV σ j u) e]
      by_cases e2 : s = j
      · rw [gI_wrV, gI_wrV_s e, ← gI_wrV]
      · rw [gI_wrV_s e2, gI_wrV_s e2, gI_wrV_s e]
  · by_cases e : s = i
    · rw [gL_wrV_s (i := j) (by omega), gL_wrV, gL_wrV (σ := wrV σ j u), gL_wrV_s (i := j) (by omega)]
    · rw [gL_wrV_s (σ := wrV σ j u) e]
      by_cases e2 : s = j
      · rw [gL_wrV, gL_wrV_s e, ← gL_wrV]
      · rw [gL_wrV_s e2, gL_wrV_s e2, gL_wrV_s e]
theorem wrV_sI (h : ¬ (118 ≤ k ∧ k ≤ 122)) : sI (wrV σ i v) k s x = wrV (sI σ k s x) i v := by
  refine ms_ext (fun k' s' => ?_) (fun k' s' => rfl) rfl
  rw [gI_sI, gI_wrV, gI_wrV, gI_sI]
  by_cases e : k' = k ∧ s' = s
  · rw [if_pos e, if_neg (by omega), if_neg (by omega), if_neg (by omega), if_neg (by omega), if_neg (by omega)]
    rw [if_pos e]
  · rw [if_neg e, if_neg e]
theorem wrV_sL (h : ¬ (112 ≤ k ∧ k ≤ 117)) : sL (wrV σ i v) k s y = wrV (sL σ k s y) i v := by
  refine ms_ext (fun k' s' => rfl) (fun k' s' => ?_) rfl
  rw [gL_sL, gL_wrV, gL_wrV, gL_sL]
  by_cases e : k' = k ∧ s' = s
  · rw [if_pos e, if_neg (by omega), if_neg (by omega), if_neg (by omega), if_neg (by omega), if_neg (by omega), if_neg (by omega)]
    rw [if_pos e]
  · rw [if_neg e, if_neg e]
theorem ite_wrV {c : Prop} {d : Decidable c} : (@ite MS c d (wrV σ i u) (wrV σ i v)) = wrV σ i (@ite _ c d u v) := by
  split <;> rfl
/-! reading and writing one field -/
theorem q118 : gI σ 118 i = vk (aV σ i) := rfl
theorem q119 : gI σ 119 i = vo (aV σ i) := rfl
theorem q120 : gI σ 120 i = vw (aV σ i) := rfl
theorem q121 : gI σ 121 i = vt (aV σ i) := rfl
theorem q122 : gI σ 122 i = vr (aV σ i) := rfl
theorem q112 : gL σ 112 i = jV (vn (aV σ i)) := rfl
theorem q113 : gL σ 113 i = jM (vn (aV σ i)) := rfl
theorem q114 : gL σ 114 i = jA (vn (aV σ i)) := rfl
theorem q115 : gL σ 115 i = jB (vn (aV σ i)) := rfl
theorem q116 : gL σ 116 i = jC (vn (aV σ i)) := rfl
theorem q117 : gL σ 117 i = jD (vn (aV σ i)) := rfl
theorem w_aux : wrV (wrV σ i v) i u = wrV σ i u := wrV_same
theorem p118 : sI σ 118 i x = wrV σ i (vK (aV σ i) x) := by
  refine ms_ext (fun k s => ?_) (fun k s => ?_) rfl
  · rw [gI_wrV, gI_sI]
    by_cases e : s = i
    · subst e
      repeat' split
      all_goals first | rfl | omega | (rename_i h; rw [h.1]; rfl) | (rename_i h _; rw [h.1]; rfl)
    · rw [if_neg (fun q => e q.2), if_neg (fun q => e q.2), if_neg (fun q => e q.2), if_neg (fun q => e q.2), if_neg (fun q => e q.2), if_neg (fun q => e q.2)]
  · show gL σ k s = _
    conv => lhs; rw [← wrV_eta (σ := σ) (i := i)]
    rfl
theorem p119 : sI σ 119 i x = wrV σ i (vO (aV σ i) x) := by
  refine ms_ext (fun k s => ?_) (fun k s => ?_) rfl
  · rw [gI_wrV, gI_sI]
    by_cases e : s = i
    · subst e
      repeat' split
      all_goals first | rfl | omega | (rename_i h; rw [h.1]; rfl) | (rename_i h _; rw [h.1]; rfl)
    · rw [if_neg (fun q => e q.2), if_neg (fun q => e q.2), if_neg (fun q => e q.2), if_neg (fun q => e q.2), if_neg (fun q => e q.2), if_neg (fun q => e q.2)]
  · show gL σ k s = _
    conv => lhs; rw [← wrV_eta (σ := σ) (i := i)]
    rfl
theorem p120 : sI σ 120 i x = wrV σ i (vW (aV σ i) x) := by
  refine ms_ext (fun k s => ?_) (fun k s => ?_) rfl
  · rw [gI_wrV, gI_sI]
    by_cases e : s = i
    · subst e
      repeat' split
      all_goals first | rfl | omega | (rename_i h; rw [h.1]; rfl) | (rename_i h _; rw [h.1]; rfl)
    · rw [if_neg (fun q => e q.2), if_neg (fun q => e q.2), if_neg (fun q => e q.2), if_neg (fun q => e q.2), if_neg (fun q => e q.2), if_neg (fun q => e q.2)]
  · show gL σ k s = _
    conv => lhs; rw [← wrV_eta (σ := σ) (i := i)]
    rfl
theorem p121 : sI σ 121 i x = wrV σ i (vT (aV σ i) x) := by
  refine ms_ext (fun k s => ?_) (fun k s => ?_) rfl
  · rw [gI_wrV, gI_sI]
    by_cases e : s = i
    · subst e
      repeat' split
      all_goals first | rfl | omega | (rename_i h; rw [h.1]; rfl) | (rename_i h _; rw [h.1]; rfl)
    · rw [if_neg (fun q => e q.2), if_neg (fun q => e q.2), if_neg (fun q => e q.2), if_neg (fun q => e q.2), if_neg (fun q => e q.2), if_neg (fun q => e q.2)]
  · show gL σ k s = _
    conv => lhs; rw [← wrV_eta (σ := σ) (i := i)]
    rfl
theorem p122 : sI σ 122 i x = wrV σ i (vR (aV σ i) x) := by
  refine ms_ext (fun k s => ?_) (fun k s => ?_) rfl
  · rw [gI_wrV, gI_sI]
    by_cases e : s = i
    · subst e
      repeat' split
      all_goals first | rfl | omega | (rename_i h; rw [h.1]; rfl) | (rename_i h _; rw [h.1]; rfl)
    · rw [if_neg (fun q => e q.2), if_neg (fun q => e q.2), if_neg (fun q => e q.2), if_neg (fun q => e q.2), if_neg (fun q => e q.2), if_neg (fun q => e q.2)]
  · show gL σ k s = _
    conv => lhs; rw [← wrV_eta (σ := σ) (i := i)]
    rfl
theorem wN_V : wN σ i n = wrV σ i (vN (aV σ i) n) := by
  refine ms_ext (fun k s => ?_) (fun k s => rfl) rfl
  show gI σ k s = _
  conv => lhs; rw [← wrV_eta (σ := σ) (i := i)]
  rfl
theorem wK_N {a b c d e : Int} : wN (wK σ i a b c d e) i n = wrV σ i (a, n, b, c, e, d) := rfl
theorem rN_V : rNv σ i = vn (aV σ i) := rfl
theorem aV_sI (h : ¬ (118 ≤ k ∧ k ≤ 122)) : aV (sI σ k s x) i = aV σ i := by
  unfold aV
  rw [gI_sI, gI_sI, gI_sI, gI_sI, gI_sI, if_neg (by omega), if_neg (by omega), if_neg (by omega), if_neg (by omega), if_neg (by omega)]
  rfl
theorem aV_sL (h : ¬ (112 ≤ k ∧ k ≤ 117)) : aV (sL σ k s y) i = aV σ i := by
  unfold aV rNv
  rw [gL_sL, gL_sL, gL_sL, gL_sL, gL_sL, gL_sL, if_neg (by omega), if_neg (by omega), if_neg (by omega), if_neg (by omega), if_neg (by omega), if_neg (by omega)]
  rfl
theorem aV_wN : aV (wN σ i n) j = if j = i then vN (aV σ i) n else aV σ j := by rw [wN_V, aV_wrV]
end WV
