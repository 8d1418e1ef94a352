/-! ===== bytes stay bytes, whatever runs ===== -/
def bOk (σ : MS) : Prop := ∀ k i, (kd σ k).1 = 1 → -128 ≤ gI σ k i ∧ gI σ k i < 128
def bkA (a : Act) : Prop := match a with
  | none => True
  | some (.inl c) => bOk c.2.2.2
  | some (.inr (.inl (p, x, y))) => (p.1 → bOk x.2.2.2) ∧ (¬ p.1 → bOk y.2.2.2)
  | some (.inr (.inr (.inl (p, q)))) => p.1 → bOk q.2
  | some (.inr (.inr (.inr (.inl (p, _, _, σ, k))))) => p.1 → bOk σ ∧ ∀ q : Rs, bOk q.2 → bOk (k q).2.2.2
  | some (.inr (.inr (.inr (.inr (_, l, d))))) => (∀ q ∈ l, bOk q.2.2.2.2) ∧ bOk d.2.2.2
section BOK
variable {σ τ : MS} {r : List Ins} {ls : List (Option MV)} {st : List MV} {k s n j a : Nat} {v x y : Int}
theorem bOk_w (h : bOk σ) (hv : (kd σ k).1 = 1 → -128 ≤ v ∧ v < 128) : bOk (sI σ k s v) := fun k' i hk => by
  have hk : (kd σ k').1 = 1 := hk
  rw [gI_sI]
  by_cases q : k' = k ∧ i = s
  · rw [if_pos q]
    rw [q.1] at hk
    exact hv hk
  · rw [if_neg q]
    exact h k' i hk
theorem bOk_c {k0 k1 : Nat} {sp dp m : Int} (h : bOk σ) (e : (kd σ k1).1 = 1 → (kd σ k0).1 = 1) : bOk (cpI σ k0 sp k1 dp m) := fun k' i hk => by
  have hk : (kd σ k').1 = 1 := hk
  show -128 ≤ (if k' = k1 ∧ dp ≤ (i : Int) ∧ (i : Int) < dp + m then σ.1 k0 ((i : Int) - dp + sp).toNat else σ.1 k' i) ∧ (if k' = k1 ∧ dp ≤ (i : Int) ∧ (i : Int) < dp + m then σ.1 k0 ((i : Int) - dp + sp).toNat else σ.1 k' i) < 128
  by_cases q : k' = k1 ∧ dp ≤ (i : Int) ∧ (i : Int) < dp + m
  · rw [if_pos q]
    rw [q.1] at hk
    exact h k0 _ (e hk)
  · rw [if_neg q]
    exact h k' i hk
theorem bOk_I (h : bOk σ) : bOk (alI σ n) := fun k' i hk => by
  by_cases q : nC σ ≤ k' ∧ k' < nC σ + 1
  · show -128 ≤ (if nC σ ≤ k' ∧ k' < nC σ + 1 then 0 else σ.1 k' i) ∧ (if nC σ ≤ k' ∧ k' < nC σ + 1 then 0 else σ.1 k' i) < 128
    rw [if_pos q]
    decide
  · have e : kd (alI σ n) k' = kd σ k' := by
      have z : (if k' = nC σ then (3, n) else σ.2.2.2.2.1 k') = σ.2.2.2.2.1 k' := if_neg (by omega)
      unfold kd
      rw [← z]
      rfl
    rw [e] at hk
    show -128 ≤ (if nC σ ≤ k' ∧ k' < nC σ + 1 then 0 else σ.1 k' i) ∧ (if nC σ ≤ k' ∧ k' < nC σ + 1 then 0 else σ.1 k' i) < 128
    rw [if_neg q]
    exact h k' i hk
theorem bOk_S (h : bOk σ) : bOk (alS σ) := fun k' i hk => by
  by_cases q : nC σ ≤ k' ∧ k' < nC σ + 4
  · show -128 ≤ (if nC σ ≤ k' ∧ k' < nC σ + 4 then 0 else σ.1 k' i) ∧ (if nC σ ≤ k' ∧ k' < nC σ + 4 then 0 else σ.1 k' i) < 128
    rw [if_pos q]
    decide
  · have e : kd (alS σ) k' = kd σ k' := by
      have z : (if k' = nC σ then (28, 0) else if k' = nC σ + 1 then (4, 1188) else if k' = nC σ + 2 then (3, 4) else if k' = nC σ + 3 then (3, 64) else σ.2.2.2.2.1 k') = σ.2.2.2.2.1 k' := by
        rw [if_neg (by omega), if_neg (by omega), if_neg (by omega), if_neg (by omega)]
      unfold kd
      rw [← z]
      rfl
    rw [e] at hk
    show -128 ≤ (if nC σ ≤ k' ∧ k' < nC σ + 4 then 0 else σ.1 k' i) ∧ (if nC σ ≤ k' ∧ k' < nC σ + 4 then 0 else σ.1 k' i) < 128
    rw [if_neg q]
    exact h k' i hk
theorem bk_LdI (h : bOk σ) : bkA (mLdI j r ls st σ) := by
  unfold mLdI; split <;> first | exact h | exact trivial
theorem bk_LdL (h : bOk σ) : bkA (mLdL j r ls st σ) := by
  unfold mLdL; split <;> first | exact h | exact trivial
theorem bk_LdR (h : bOk σ) : bkA (mLdR j r ls st σ) := by
  unfold mLdR; split <;> first | exact h | exact trivial
theorem bk_StI (h : bOk σ) : bkA (mStI j r ls st σ) := by
  unfold mStI; split <;> first | exact h | exact trivial
theorem bk_StL (h : bOk σ) : bkA (mStL j r ls st σ) := by
  unfold mStL; split <;> first | exact h | exact trivial
theorem bk_StR (h : bOk σ) : bkA (mStR j r ls st σ) := by
  unfold mStR; split <;> first | exact h | exact trivial
theorem bk_BI {f : Int → Int → Int} (h : bOk σ) : bkA (mBI f r ls st σ) := by
  unfold mBI; split <;> first | exact h | exact trivial
theorem bk_BL {f : BitVec 64 → BitVec 64 → BitVec 64} (h : bOk σ) : bkA (mBL f r ls st σ) := by
  unfold mBL; split <;> first | exact h | exact trivial
theorem bk_BS {f : BitVec 64 → Int → BitVec 64} (h : bOk σ) : bkA (mBS f r ls st σ) := by
  unfold mBS; split <;> first | exact h | exact trivial
theorem bk_UI {f : Int → Int} (h : bOk σ) : bkA (mUI f r ls st σ) := by
  unfold mUI; split <;> first | exact h | exact trivial
theorem bk_BD {f : Int → Int → Int} (h : bOk σ) : bkA (mBD f r ls st σ) := by
  unfold mBD; split <;> first | exact ⟨fun _ => h, fun _ => h⟩ | exact trivial
theorem bk_BE {f : BitVec 64 → BitVec 64 → BitVec 64} (h : bOk σ) : bkA (mBE f r ls st σ) := by
  unfold mBE; split <;> first | exact ⟨fun _ => h, fun _ => h⟩ | exact trivial
theorem bk_If {c : Jvm.ClassFile.Cond} {t f : Cf} (ht : bOk t.2.2.2) (hf : bOk f.2.2.2) : bkA (mIf c x y t f) := by
  cases c <;> exact ⟨fun _ => ht, fun _ => hf⟩
theorem bk_IfL {c : Jvm.ClassFile.Cond} {x y : BitVec 64} {t f : Cf} (ht : bOk t.2.2.2) (hf : bOk f.2.2.2) : bkA (mIfL c x y t f) := by
  cases c <;> exact ⟨fun _ => ht, fun _ => hf⟩
theorem bk_ALd (h : bOk σ) : bkA (mALd a r ls st σ) := by
  unfold mALd; split <;> first | exact ⟨fun _ => h, fun _ => h⟩ | exact trivial
theorem bk_ASt (h : bOk σ) : bkA (mASt a r ls st σ) := by
  unfold mASt
  split
  · refine ⟨fun p => bOk_w h fun e => ?_, fun _ => h⟩
    have p2 := p.2.1
    have a1 : a = 1 := p2.symm.trans e
    rw [if_pos a1]
    exact w8_in _
  · exact trivial
theorem bk_AStL (h : bOk σ) : bkA (mAStL r ls st σ) := by
  unfold mAStL; split <;> first | exact ⟨fun _ => h, fun _ => h⟩ | exact trivial
theorem bk_AStR (h : bOk σ) : bkA (mAStR a r ls st σ) := by
  unfold mAStR; split <;> first | exact ⟨fun _ => h, fun _ => h⟩ | exact trivial
theorem bk_Get {ci : Nat} (h : bOk σ) : bkA (mGet ci s k r ls st σ) := by
  unfold mGet; split <;> first | exact ⟨fun _ => h, fun _ => h⟩ | exact trivial
theorem bk_Put {ci : Nat} (h : bOk σ) : bkA (mPut ci s k r ls st σ) := by
  unfold mPut
  split
  · split
    · exact ⟨fun p => bOk_w h fun e => absurd (p.2.symm.trans e) (by omega), fun _ => h⟩
    · exact ⟨fun p => bOk_w h fun e => absurd (p.1.2.symm.trans e) (by omega), fun _ => h⟩
    · exact trivial
  · split
    · exact ⟨fun _ => h, fun _ => h⟩
    · exact trivial
  · split
    · exact ⟨fun _ => h, fun _ => h⟩
    · exact ⟨fun _ => h, fun _ => h⟩
    · exact ⟨fun _ => h, fun _ => h⟩
    · exact trivial
  · exact trivial
theorem bk_Chx (h : bOk σ) : bkA (mChx r ls st σ) := by
  unfold mChx; split <;> first | exact ⟨fun _ => h, fun _ => h⟩ | exact trivial
theorem bk_Cpy (h : bOk σ) : bkA (mCpy a r ls st σ) := by
  unfold mCpy
  split
  · refine ⟨fun p => ?_, fun _ => h⟩
    show bOk (if a = 4 then _ else _)
    split
    · exact h
    · exact bOk_c h fun e => (p.2.1.1.trans p.2.1.2.symm).trans e
  · exact trivial
theorem bk_Cal {m ci : Nat} (h : bOk σ) : bkA (mCal m n ci r ls st σ) := by
  unfold mCal
  split
  · split
    · exact fun _ => ⟨h, fun q hq => hq⟩
    · exact trivial
  · split
    · split
      · exact fun _ => ⟨h, fun q hq => hq⟩
      · exact trivial
    · exact trivial
theorem bk_RetI (h : bOk σ) : bkA (mRetI k st σ) := by
  unfold mRetI
  split
  · split <;> exact fun _ => h
  · exact trivial
theorem bk_Null {c : Bool} {t f : List Ins} (h : bOk σ) : bkA (mNull c st ls t f σ) := by
  unfold mNull; split <;> first | exact ⟨fun _ => h, fun _ => h⟩ | exact trivial
theorem bk_step (tg : Nat → List Ins) (c : Cf) (h : bOk c.2.2.2) : bkA (mstep tg c) := by
  obtain ⟨is, ls, st, σ⟩ := c
  have h : bOk σ := h
  cases is with
  | nil => exact trivial
  | cons q r =>
    obtain ⟨i, pc, a, b, k, t⟩ := q
    cases i with
    | iload_n n => exact bk_LdI h
    | iload n => exact bk_LdI h
    | lload_n n => exact bk_LdL h
    | lload n => exact bk_LdL h
    | aload_n n => exact bk_LdR h
    | aload n => exact bk_LdR h
    | istore_n n => exact bk_StI h
    | istore n => exact bk_StI h
    | lstore_n n => exact bk_StL h
    | lstore n => exact bk_StL h
    | astore_n n => exact bk_StR h
    | astore n => exact bk_StR h
    | iinc n d => (unfold mstep; dsimp only; split <;> first | exact h | exact trivial)
    | iconst n => exact h
    | bipush n => exact h
    | sipush n => exact h
    | lconst n => exact h
    | aconst_null => exact h
    | ldc _ => (unfold mstep; dsimp only; split <;> (try split) <;> first | exact h | exact trivial)
    | ldc_w _ => (unfold mstep; dsimp only; split <;> (try split) <;> first | exact h | exact trivial)
    | ldc2_w _ => (unfold mstep; dsimp only; split <;> first | exact h | exact trivial)
    | iadd => exact bk_BI h
    | isub => exact bk_BI h
    | imul => exact bk_BI h
    | iand => exact bk_BI h
    | ior => exact bk_BI h
    | ixor => exact bk_BI h
    | ishl => exact bk_BI h
    | ishr => exact bk_BI h
    | idiv => exact bk_BD h
    | irem => exact bk_BD h
    | ineg => exact bk_UI h
    | i2b => exact bk_UI h
    | i2s => exact bk_UI h
    | i2c => exact bk_UI h
    | getstatic _ => (unfold mstep; dsimp only; split <;> first | exact h | exact trivial)
    | ladd => exact bk_BL h
    | lsub => exact bk_BL h
    | lmul => exact bk_BL h
    | land => exact bk_BL h
    | lor => exact bk_BL h
    | lxor => exact bk_BL h
    | ldiv => exact bk_BE h
    | lrem => exact bk_BE h
    | lshl => exact bk_BS h
    | lshr => exact bk_BS h
    | lushr => exact bk_BS h
    | lneg => (unfold mstep; dsimp only; split <;> first | exact h | exact trivial)
    | i2l => (unfold mstep; dsimp only; split <;> first | exact h | exact trivial)
    | l2i => (unfold mstep; dsimp only; split <;> first | exact h | exact trivial)
    | dup => (unfold mstep; dsimp only; split <;> first | exact h | exact trivial)
    | dup2 => (unfold mstep; dsimp only; split <;> first | exact h | exact trivial)
    | pop => (unfold mstep; dsimp only; split <;> first | exact h | exact trivial)
    | pop2 => (unfold mstep; dsimp only; split <;> first | exact h | exact trivial)
    | dup_x1 => (unfold mstep; dsimp only; split <;> first | exact h | exact trivial)
    | dup2_x1 => (unfold mstep; dsimp only; split <;> first | exact h | exact trivial)
    | lcmp => (unfold mstep; dsimp only; split <;> first | exact bk_IfL h h | exact trivial)
    | ifCond cc _ => (unfold mstep; dsimp only; split <;> first | exact bk_If h h | exact trivial)
    | if_icmp cc _ => (unfold mstep; dsimp only; split <;> first | exact bk_If h h | exact trivial)
    | if_acmp cc o => (unfold mstep; dsimp only; split <;> (try split) <;> (try split) <;> first | exact ⟨fun _ => h, fun _ => h⟩ | exact trivial)
    | ifnull _ => exact bk_Null h
    | ifnonnull _ => exact bk_Null h
    | goto _ => exact h
    | nop => exact h
    | tableswitch _ _ _ _ =>
      unfold mstep
      dsimp only
      split
      · refine ⟨fun q hq => ?_, h⟩
        obtain ⟨z, _, e⟩ := List.mem_map.mp hq
        rw [← e]
        exact h
      · exact trivial
    | lookupswitch _ _ =>
      unfold mstep
      dsimp only
      split
      · refine ⟨fun q hq => ?_, h⟩
        obtain ⟨z, _, e⟩ := List.mem_map.mp hq
        rw [← e]
        exact h
      · exact trivial
    | getfield _ => exact bk_Get h
    | putfield _ => exact bk_Put h
    | iaload => exact bk_ALd h
    | baload => exact bk_ALd h
    | laload => exact bk_ALd h
    | aaload => exact bk_ALd h
    | iastore => exact bk_ASt h
    | bastore => exact bk_ASt h
    | lastore => exact bk_AStL h
    | aastore => exact bk_AStR h
    | arraylength => (unfold mstep; dsimp only; split <;> first | exact ⟨fun _ => h, fun _ => h⟩ | exact trivial)
    | newarray _ => (unfold mstep; dsimp only; split <;> (try split) <;> first | exact bOk_I h | exact trivial)
    | new _ => (unfold mstep; dsimp only; split <;> (try split) <;> first | exact bOk_S h | exact trivial)
    | invokevirtual _ => (unfold mstep; dsimp only; split <;> first | exact bk_Cal h | exact trivial)
    | invokestatic _ => (unfold mstep; dsimp only; split <;> (try split) <;> first | exact bk_Cal h | exact bk_Cpy h | exact bk_Chx h | exact trivial)
    | ireturn => exact bk_RetI h
    | lreturn => (unfold mstep; dsimp only; split <;> first | exact fun _ => h | exact trivial)
    | areturn => (unfold mstep; dsimp only; split <;> first | exact fun _ => h | exact trivial)
    | return_ => (unfold mstep; dsimp only; split <;> first | exact fun _ => h | exact trivial)
    | _ => exact trivial
theorem bk_rSw {x : Int} {d : Cf} (hd : bOk d.2.2.2) : ∀ l : List (Int × Cf), (∀ q ∈ l, bOk q.2.2.2.2) → bOk (rSw x l d).2.2.2 := by
  intro l
  induction l with
  | nil => intro _; exact hd
  | cons q l ih =>
    intro h
    show bOk (if x = q.1 then q.2 else rSw x l d).2.2.2
    split
    · exact h q (List.mem_cons_self ..)
    · exact ih fun z hz => h z (List.mem_cons_of_mem _ hz)
theorem enC_s {m : Nat} {as : List MV} : (enC m as σ).2.2.2 = σ := by
  unfold enC
  split <;> rfl
theorem run_b : ∀ (n : Nat) (tg : Nat → List Ins) (c : Cf) (r : Rs), bOk c.2.2.2 → run n tg c = some r → bOk r.2 := by
  intro n
  induction n with
  | zero => intro tg c r _ h; cases h
  | succ n ih =>
    intro tg c r hb h
    have b := bk_step tg c hb
    rw [run] at h
    split at h
    · cases h
    · rename_i c' hm
      rw [hm] at b
      exact ih _ _ _ b h
    · rename_i p x y hm
      rw [hm] at b
      by_cases hp : p.1
      · rw [if_pos hp] at h
        exact ih _ _ _ (b.1 hp) h
      · rw [if_neg hp] at h
        exact ih _ _ _ (b.2 hp) h
    · rename_i p q hm
      rw [hm] at b
      by_cases hp : p.1
      · rw [if_pos hp] at h
        cases h
        exact b hp
      · rw [if_neg hp] at h
        cases h
    · rename_i p m as σ k hm
      rw [hm] at b
      by_cases hp : p.1
      · rw [if_pos hp] at h
        obtain ⟨q, h1, h2⟩ := Option.bind_eq_some_iff.mp h
        obtain ⟨b1, b2⟩ := b hp
        exact ih _ _ _ (b2 q (ih _ _ _ (by rw [enC_s]; exact b1) h1)) h2
      · rw [if_neg hp] at h
        cases h
    · rename_i x l d hm
      rw [hm] at b
      exact ih _ _ _ (bk_rSw b.2 l b.1) h
/-- bytes stay bytes -/
theorem MM_b {m : Nat} {as : List MV} {v : Option MV} (h : bOk σ) (e : MM m as σ = some (v, τ)) : bOk τ := by
  obtain ⟨n, hn⟩ := RR_ex e
  exact run_b n _ _ (v, τ) (by rw [enC_s]; exact h) hn
end BOK
