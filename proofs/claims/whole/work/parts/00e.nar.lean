/-! ===== what is DECIDED, and how numbers are NARROWED ===== -/
/-- a jump's condition (w: of 64 bits) -/
def cmpB (c : Int) (w : Bool) (a b : B64) : Bool :=
  if c = 16 then decide (a = b)
  else if c = 32 then decide (b < a)
  else if c = 48 then decide (¬ a < b)
  else if c = 64 then decide (¬ a &&& b = 0#64)
  else if c = 80 then decide (¬ a = b)
  else if c = 96 then decide ((if w = true then b else sxt 32 b).toInt < (if w = true then a else sxt 32 a).toInt)
  else if c = 112 then decide (¬ (if w = true then a else sxt 32 a).toInt < (if w = true then b else sxt 32 b).toInt)
  else if c = 160 then decide (a < b)
  else if c = 176 then decide (¬ b < a)
  else if c = 192 then decide ((if w = true then a else sxt 32 a).toInt < (if w = true then b else sxt 32 b).toInt)
  else decide (¬ (if w = true then b else sxt 32 b).toInt < (if w = true then a else sxt 32 a).toInt)
abbrev isCmp (c : Int) : Prop := c = 16 ∨ c = 32 ∨ c = 48 ∨ c = 64 ∨ c = 80 ∨ c = 96 ∨ c = 112 ∨ c = 160 ∨ c = 176 ∨ c = 192 ∨ c = 208
abbrev isSgn (c : Int) : Prop := c = 96 ∨ c = 112 ∨ c = 192 ∨ c = 208
abbrev apaN (x y : N6) : Prop := ¬ (((jV x ^^^ jV y) &&& ~~~ (jM x)) &&& ~~~ (jM y)) = 0#64 ∨ jB x < jA y ∨ jB y < jA x ∨ (jD x).toInt < (jC y).toInt ∨ (jD y).toInt < (jC x).toInt
def equN (x y : N6) : Int := if (isC x ∧ isC y) ∧ jV x = jV y then 1 else if apaN x y then 0 else -1
def aboN (x y : N6) : Int := if jB y < jA x then 1 else if ¬ jA y < jB x then 0 else -1
def nblN (x y : N6) : Int := if ¬ jA x < jB y then 1 else if jB x < jA y then 0 else -1
def aboS (x y : N6) : Int := if (jD y).toInt < (jC x).toInt then 1 else if (jD x).toInt ≤ (jC y).toInt then 0 else -1
def nblS (x y : N6) : Int := if (jD y).toInt ≤ (jC x).toInt then 1 else if (jD x).toInt < (jC y).toInt then 0 else -1
/-- of 64 bits -/
def decX (c : Int) (x y : N6) : Int :=
  if c = 16 then equN x y
  else if c = 80 then (if equN x y < 0 then equN x y else 1 - equN x y)
  else if c = 64 then (if ¬ jV x &&& jV y = 0#64 then 1 else if (jV x ||| jM x) &&& (jV y ||| jM y) = 0#64 then 0 else -1)
  else if c = 32 then aboN x y
  else if c = 48 then nblN x y
  else if c = 160 then aboN y x
  else if c = 176 then nblN y x
  else if c = 96 then aboS x y
  else if c = 112 then nblS x y
  else if c = 192 then aboS y x
  else nblS y x
/-- 1: yes, 0: no, -1: not DECIDED -/
def decN (c : Int) (w : Bool) (x y : N6) : Int :=
  if w = true then decX c x y
  else if isSgn c then (if isC (cutT x) ∧ isC (cutT y) then (if cmpB c false (jV (cutT x)) (jV (cutT y)) = true then 1 else 0) else -1)
  else decX c (cutT x) (cutT y)
theorem equN_1 {x y : N6} {a b : B64} (hx : inN x a) (hy : inN y b) (h : equN x y = 1) : a = b := by
  unfold equN at h
  split at h
  · rename_i q
    rw [gN_const hx.2 q.1.1, gN_const hy.2 q.1.2]
    exact q.2
  · split at h <;> omega
theorem equN_0 {x y : N6} {a b : B64} (hx : inN x a) (hy : inN y b) (h : equN x y = 0) : ¬ a = b := by
  unfold equN at h
  split at h
  · omega
  · split at h
    · rename_i q
      intro e
      subst e
      obtain ⟨x1, x2, x3, x4, x5⟩ := hx.2
      obtain ⟨y1, y2, y3, y4, y5⟩ := hy.2
      rcases q with q | q | q | q | q
      · refine q ?_
        apply BitVec.eq_of_getLsbD_eq
        intro i hi
        rw [BitVec.getLsbD_and, BitVec.getLsbD_and, BitVec.getLsbD_xor, BitVec.getLsbD_not, BitVec.getLsbD_not]
        cases c1 : (jM x).getLsbD i with
        | true => simp
        | false =>
          cases c2 : (jM y).getLsbD i with
          | true => simp
          | false => rw [← x1 i c1, ← y1 i c2]; simp
      · rw [BitVec.lt_def] at q; omega
      · rw [BitVec.lt_def] at q; omega
      · omega
      · omega
    · omega
theorem aboN_1 {x y : N6} {a b : B64} (hx : inN x a) (hy : inN y b) (h : aboN x y = 1) : b < a := by
  obtain ⟨_, x2, x3, _, _⟩ := hx.2
  obtain ⟨_, y2, y3, _, _⟩ := hy.2
  unfold aboN at h
  split at h
  · rename_i q
    rw [BitVec.lt_def] at *
    omega
  · split at h <;> omega
theorem aboN_0 {x y : N6} {a b : B64} (hx : inN x a) (hy : inN y b) (h : aboN x y = 0) : ¬ b < a := by
  obtain ⟨_, x2, x3, _, _⟩ := hx.2
  obtain ⟨_, y2, y3, _, _⟩ := hy.2
  unfold aboN at h
  split at h
  · omega
  · split at h
    · rename_i q
      rw [BitVec.lt_def] at *
      omega
    · omega
theorem nblN_1 {x y : N6} {a b : B64} (hx : inN x a) (hy : inN y b) (h : nblN x y = 1) : ¬ a < b := by
  obtain ⟨_, x2, x3, _, _⟩ := hx.2
  obtain ⟨_, y2, y3, _, _⟩ := hy.2
  unfold nblN at h
  split at h
  · rename_i q
    rw [BitVec.lt_def] at *
    omega
  · split at h <;> omega
theorem nblN_0 {x y : N6} {a b : B64} (hx : inN x a) (hy : inN y b) (h : nblN x y = 0) : a < b := by
  obtain ⟨_, x2, x3, _, _⟩ := hx.2
  obtain ⟨_, y2, y3, _, _⟩ := hy.2
  unfold nblN at h
  split at h
  · omega
  · split at h
    · rename_i q
      rw [BitVec.lt_def] at *
      omega
    · omega
theorem aboS_1 {x y : N6} {a b : B64} (hx : inN x a) (hy : inN y b) (h : aboS x y = 1) : b.toInt < a.toInt := by
  obtain ⟨_, _, _, x2, x3⟩ := hx.2
  obtain ⟨_, _, _, y2, y3⟩ := hy.2
  unfold aboS at h
  split at h
  · omega
  · split at h <;> omega
theorem aboS_0 {x y : N6} {a b : B64} (hx : inN x a) (hy : inN y b) (h : aboS x y = 0) : ¬ b.toInt < a.toInt := by
  obtain ⟨_, _, _, x2, x3⟩ := hx.2
  obtain ⟨_, _, _, y2, y3⟩ := hy.2
  unfold aboS at h
  split at h
  · omega
  · split at h <;> omega
theorem nblS_1 {x y : N6} {a b : B64} (hx : inN x a) (hy : inN y b) (h : nblS x y = 1) : ¬ a.toInt < b.toInt := by
  obtain ⟨_, _, _, x2, x3⟩ := hx.2
  obtain ⟨_, _, _, y2, y3⟩ := hy.2
  unfold nblS at h
  split at h
  · omega
  · split at h <;> omega
theorem nblS_0 {x y : N6} {a b : B64} (hx : inN x a) (hy : inN y b) (h : nblS x y = 0) : a.toInt < b.toInt := by
  obtain ⟨_, _, _, x2, x3⟩ := hx.2
  obtain ⟨_, _, _, y2, y3⟩ := hy.2
  unfold nblS at h
  split at h
  · omega
  · split at h <;> omega
theorem bits_0 {x y : N6} {a b : B64} (hx : inN x a) (hy : inN y b) (h : (jV x ||| jM x) &&& (jV y ||| jM y) = 0#64) : a &&& b = 0#64 := by
  apply BitVec.eq_of_getLsbD_eq
  intro i hi
  have e : ((jV x ||| jM x) &&& (jV y ||| jM y)).getLsbD i = (0#64).getLsbD i := congrArg (fun z => BitVec.getLsbD z i) h
  rw [BitVec.getLsbD_and] at e ⊢
  have ux := @bit_u _ _ _ hx.2.1 i
  have uy := @bit_u _ _ _ hy.2.1 i
  have z : (0#64).getLsbD i = false := by simp
  rw [z] at e ⊢
  revert e ux uy
  cases (jV x ||| jM x).getLsbD i <;> cases (jV y ||| jM y).getLsbD i <;> cases a.getLsbD i <;> cases b.getLsbD i <;> simp
theorem bits_1 {x y : N6} {a b : B64} (hx : inN x a) (hy : inN y b) (h : ¬ jV x &&& jV y = 0#64) : ¬ a &&& b = 0#64 := by
  intro e
  refine h ?_
  apply BitVec.eq_of_getLsbD_eq
  intro i hi
  have e : (a &&& b).getLsbD i = (0#64).getLsbD i := congrArg (fun z => BitVec.getLsbD z i) e
  rw [BitVec.getLsbD_and] at e ⊢
  have tx := @bit_t _ _ _ hx.2.1 hx.1 i
  have ty := @bit_t _ _ _ hy.2.1 hy.1 i
  have z : (0#64).getLsbD i = false := by simp
  rw [z] at e ⊢
  revert e tx ty
  cases (jV x).getLsbD i <;> cases (jV y).getLsbD i <;> cases a.getLsbD i <;> cases b.getLsbD i <;> simp
theorem cmpB_16 (w : Bool) (a b : B64) : cmpB 16 w a b = decide (a = b) := by
  unfold cmpB
  rw [if_pos rfl]
theorem cmpB_32 (w : Bool) (a b : B64) : cmpB 32 w a b = decide (b < a) := by
  unfold cmpB
  rw [if_neg (by decide), if_pos rfl]
theorem cmpB_48 (w : Bool) (a b : B64) : cmpB 48 w a b = decide (¬ a < b) := by
  unfold cmpB
  rw [if_neg (by decide), if_neg (by decide), if_pos rfl]
theorem cmpB_64 (w : Bool) (a b : B64) : cmpB 64 w a b = decide (¬ a &&& b = 0#64) := by
  unfold cmpB
  rw [if_neg (by decide), if_neg (by decide), if_neg (by decide), if_pos rfl]
theorem cmpB_80 (w : Bool) (a b : B64) : cmpB 80 w a b = decide (¬ a = b) := by
  unfold cmpB
  rw [if_neg (by decide), if_neg (by decide), if_neg (by decide), if_neg (by decide), if_pos rfl]
theorem cmpB_96 (w : Bool) (a b : B64) : cmpB 96 w a b = decide ((if w = true then b else sxt 32 b).toInt < (if w = true then a else sxt 32 a).toInt) := by
  unfold cmpB
  rw [if_neg (by decide), if_neg (by decide), if_neg (by decide), if_neg (by decide), if_neg (by decide), if_pos rfl]
theorem cmpB_112 (w : Bool) (a b : B64) : cmpB 112 w a b = decide (¬ (if w = true then a else sxt 32 a).toInt < (if w = true then b else sxt 32 b).toInt) := by
  unfold cmpB
  rw [if_neg (by decide), if_neg (by decide), if_neg (by decide), if_neg (by decide), if_neg (by decide), if_neg (by decide), if_pos rfl]
theorem cmpB_160 (w : Bool) (a b : B64) : cmpB 160 w a b = decide (a < b) := by
  unfold cmpB
  rw [if_neg (by decide), if_neg (by decide), if_neg (by decide), if_neg (by decide), if_neg (by decide), if_neg (by decide), if_neg (by decide), if_pos rfl]
theorem cmpB_176 (w : Bool) (a b : B64) : cmpB 176 w a b = decide (¬ b < a) := by
  unfold cmpB
  rw [if_neg (by decide), if_neg (by decide), if_neg (by decide), if_neg (by decide), if_neg (by decide), if_neg (by decide), if_neg (by decide), if_neg (by decide), if_pos rfl]
theorem cmpB_192 (w : Bool) (a b : B64) : cmpB 192 w a b = decide ((if w = true then a else sxt 32 a).toInt < (if w = true then b else sxt 32 b).toInt) := by
  unfold cmpB
  rw [if_neg (by decide), if_neg (by decide), if_neg (by decide), if_neg (by decide), if_neg (by decide), if_neg (by decide), if_neg (by decide), if_neg (by decide), if_neg (by decide), if_pos rfl]
theorem cmpB_208 (w : Bool) (a b : B64) : cmpB 208 w a b = decide (¬ (if w = true then b else sxt 32 b).toInt < (if w = true then a else sxt 32 a).toInt) := by
  unfold cmpB
  rw [if_neg (by decide), if_neg (by decide), if_neg (by decide), if_neg (by decide), if_neg (by decide), if_neg (by decide), if_neg (by decide), if_neg (by decide), if_neg (by decide), if_neg (by decide)]
theorem decX_16e (x y : N6) : decX 16 x y = equN x y := by
  unfold decX
  rw [if_pos rfl]
theorem decX_32e (x y : N6) : decX 32 x y = aboN x y := by
  unfold decX
  rw [if_neg (by decide), if_neg (by decide), if_neg (by decide), if_pos rfl]
theorem decX_48e (x y : N6) : decX 48 x y = nblN x y := by
  unfold decX
  rw [if_neg (by decide), if_neg (by decide), if_neg (by decide), if_neg (by decide), if_pos rfl]
theorem decX_64e (x y : N6) : decX 64 x y = (if ¬ jV x &&& jV y = 0#64 then 1 else if (jV x ||| jM x) &&& (jV y ||| jM y) = 0#64 then 0 else -1) := by
  unfold decX
  rw [if_neg (by decide), if_neg (by decide), if_pos rfl]
theorem decX_80e (x y : N6) : decX 80 x y = (if equN x y < 0 then equN x y else 1 - equN x y) := by
  unfold decX
  rw [if_neg (by decide), if_pos rfl]
theorem decX_96e (x y : N6) : decX 96 x y = aboS x y := by
  unfold decX
  rw [if_neg (by decide), if_neg (by decide), if_neg (by decide), if_neg (by decide), if_neg (by decide), if_neg (by decide), if_neg (by decide), if_pos rfl]
theorem decX_112e (x y : N6) : decX 112 x y = nblS x y := by
  unfold decX
  rw [if_neg (by decide), if_neg (by decide), if_neg (by decide), if_neg (by decide), if_neg (by decide), if_neg (by decide), if_neg (by decide), if_neg (by decide), if_pos rfl]
theorem decX_160e (x y : N6) : decX 160 x y = aboN y x := by
  unfold decX
  rw [if_neg (by decide), if_neg (by decide), if_neg (by decide), if_neg (by decide), if_neg (by decide), if_pos rfl]
theorem decX_176e (x y : N6) : decX 176 x y = nblN y x := by
  unfold decX
  rw [if_neg (by decide), if_neg (by decide), if_neg (by decide), if_neg (by decide), if_neg (by decide), if_neg (by decide), if_pos rfl]
theorem decX_192e (x y : N6) : decX 192 x y = aboS y x := by
  unfold decX
  rw [if_neg (by decide), if_neg (by decide), if_neg (by decide), if_neg (by decide), if_neg (by decide), if_neg (by decide), if_neg (by decide), if_neg (by decide), if_neg (by decide), if_pos rfl]
theorem decX_208e (x y : N6) : decX 208 x y = nblS y x := by
  unfold decX
  rw [if_neg (by decide), if_neg (by decide), if_neg (by decide), if_neg (by decide), if_neg (by decide), if_neg (by decide), if_neg (by decide), if_neg (by decide), if_neg (by decide), if_neg (by decide)]
theorem decX_1 {c : Int} {x y : N6} {a b : B64} (hc : isCmp c) (hx : inN x a) (hy : inN y b) (w : Bool) (hw : w = true ∨ ¬ isSgn c) (h : decX c x y = 1) : cmpB c w a b = true := by
  rcases hc with rfl | rfl | rfl | rfl | rfl | rfl | rfl | rfl | rfl | rfl | rfl
  · rw [decX_16e] at h
    rw [cmpB_16]
    exact decide_eq_true (equN_1 hx hy h)
  · rw [decX_32e] at h
    rw [cmpB_32]
    exact decide_eq_true (aboN_1 hx hy h)
  · rw [decX_48e] at h
    rw [cmpB_48]
    exact decide_eq_true (nblN_1 hx hy h)
  · rw [decX_64e] at h
    rw [cmpB_64]
    refine decide_eq_true (bits_1 hx hy fun e => ?_)
    rw [if_neg (fun k => k e)] at h
    split at h <;> omega
  · rw [decX_80e] at h
    rw [cmpB_80]
    refine decide_eq_true (equN_0 hx hy ?_)
    split at h <;> omega
  · rw [decX_96e] at h
    rw [cmpB_96]
    rcases hw with rfl | hw
    · exact decide_eq_true (aboS_1 hx hy h)
    · exact absurd (by decide) hw
  · rw [decX_112e] at h
    rw [cmpB_112]
    rcases hw with rfl | hw
    · exact decide_eq_true (nblS_1 hx hy h)
    · exact absurd (by decide) hw
  · rw [decX_160e] at h
    rw [cmpB_160]
    exact decide_eq_true (aboN_1 hy hx h)
  · rw [decX_176e] at h
    rw [cmpB_176]
    exact decide_eq_true (nblN_1 hy hx h)
  · rw [decX_192e] at h
    rw [cmpB_192]
    rcases hw with rfl | hw
    · exact decide_eq_true (aboS_1 hy hx h)
    · exact absurd (by decide) hw
  · rw [decX_208e] at h
    rw [cmpB_208]
    rcases hw with rfl | hw
    · exact decide_eq_true (nblS_1 hy hx h)
    · exact absurd (by decide) hw
theorem decX_0 {c : Int} {x y : N6} {a b : B64} (hc : isCmp c) (hx : inN x a) (hy : inN y b) (w : Bool) (hw : w = true ∨ ¬ isSgn c) (h : decX c x y = 0) : cmpB c w a b = false := by
  rcases hc with rfl | rfl | rfl | rfl | rfl | rfl | rfl | rfl | rfl | rfl | rfl
  · rw [decX_16e] at h
    rw [cmpB_16]
    exact decide_eq_false (equN_0 hx hy h)
  · rw [decX_32e] at h
    rw [cmpB_32]
    exact decide_eq_false (aboN_0 hx hy h)
  · rw [decX_48e] at h
    rw [cmpB_48]
    exact decide_eq_false (fun k => k (nblN_0 hx hy h))
  · rw [decX_64e] at h
    rw [cmpB_64]
    refine decide_eq_false (fun k => k (bits_0 hx hy ?_))
    split at h
    · omega
    · split at h
      · assumption
      · omega
  · rw [decX_80e] at h
    rw [cmpB_80]
    refine decide_eq_false (fun k => k (equN_1 hx hy ?_))
    split at h <;> omega
  · rw [decX_96e] at h
    rw [cmpB_96]
    rcases hw with rfl | hw
    · exact decide_eq_false (aboS_0 hx hy h)
    · exact absurd (by decide) hw
  · rw [decX_112e] at h
    rw [cmpB_112]
    rcases hw with rfl | hw
    · exact decide_eq_false (fun k => k (nblS_0 hx hy h))
    · exact absurd (by decide) hw
  · rw [decX_160e] at h
    rw [cmpB_160]
    exact decide_eq_false (aboN_0 hy hx h)
  · rw [decX_176e] at h
    rw [cmpB_176]
    exact decide_eq_false (fun k => k (nblN_0 hy hx h))
  · rw [decX_192e] at h
    rw [cmpB_192]
    rcases hw with rfl | hw
    · exact decide_eq_false (aboS_0 hy hx h)
    · exact absurd (by decide) hw
  · rw [decX_208e] at h
    rw [cmpB_208]
    rcases hw with rfl | hw
    · exact decide_eq_false (fun k => k (nblS_0 hy hx h))
    · exact absurd (by decide) hw
/-- of 06 and so on both sides are cut -/
def cmpW (c : Int) (w : Bool) (a b : B64) : Bool := if w = true then cmpB c true a b else cmpB c false (a &&& cF) (b &&& cF)
theorem decN_1 {c : Int} {w : Bool} {x y : N6} {a b : B64} (hc : isCmp c) (hx : inN x a) (hy : inN y b) (h : decN c w x y = 1) : cmpW c w a b = true := by
  unfold decN at h
  unfold cmpW
  cases w with
  | true => exact decX_1 hc hx hy true (Or.inl rfl) h
  | false =>
    have X := inN_cut hx
    have Y := inN_cut hy
    rw [if_neg (by decide)] at h ⊢
    split at h
    · split at h
      · rename_i q
        rw [gN_const X.2 q.1, gN_const Y.2 q.2]
        split at h
        · assumption
        · omega
      · omega
    · rename_i q
      exact decX_1 hc X Y false (Or.inr q) h
theorem decN_0 {c : Int} {w : Bool} {x y : N6} {a b : B64} (hc : isCmp c) (hx : inN x a) (hy : inN y b) (h : decN c w x y = 0) : cmpW c w a b = false := by
  unfold decN at h
  unfold cmpW
  cases w with
  | true => exact decX_0 hc hx hy true (Or.inl rfl) h
  | false =>
    have X := inN_cut hx
    have Y := inN_cut hy
    rw [if_neg (by decide)] at h ⊢
    split at h
    · split at h
      · rename_i q
        rw [gN_const X.2 q.1, gN_const Y.2 q.2]
        split at h
        · omega
        · rename_i k
          simpa using k
      · omega
    · rename_i q
      exact decX_0 hc X Y false (Or.inr q) h
/-! NARROWED -/
/-- a is below b (t), or not above it -/
def lesN (a b : N6) (t : Bool) : N6 × N6 := ((jV a, jM a, jA a, bmin (jB a) (jB b - (if t = true then 1#64 else 0#64)), jC a, jD a), (jV b, jM b, bmax (jA b) (jA a + (if t = true then 1#64 else 0#64)), jB b, jC b, jD b))
def lesS (a b : N6) (t : Bool) : N6 × N6 := ((jV a, jM a, jA a, jB a, jC a, smin (jD a) (jD b - (if t = true then 1#64 else 0#64))), (jV b, jM b, jA b, jB b, smax (jC b) (jC a + (if t = true then 1#64 else 0#64)), jD b))
def bothN (x y : N6) : N6 := (jV x ||| jV y, jM x &&& jM y, bmax (jA x) (jA y), bmin (jB x) (jB y), smax (jC x) (jC y), smin (jD x) (jD y))
/-- it is not c -/
def notN (o : N6) (c : B64) : N6 := (jV o, jM o, (if jA o = c then jA o + 1#64 else jA o), (if jB o = c then jB o - 1#64 else jB o), (if jC o = c then jC o + 1#64 else jC o), (if jD o = c then jD o - 1#64 else jD o))
def unlN (x y : N6) : N6 × N6 := if (isC x ↔ isC y) then (x, y) else if isC x then (x, notN y (jV x)) else (notN x (jV y), y)
def pyx (p : N6 × N6) : N6 × N6 := (p.2, p.1)
/-- on the way on which it is so, or is not -/
def narN (c : Int) (is : Bool) (x y : N6) : N6 × N6 :=
  if c = 16 ∨ c = 80 then (if (c = 16 ↔ is = true) then (bothN x y, bothN x y) else unlN x y)
  else if c = 64 then (if isC y ∧ is = true ∧ jV y &&& (jV y - 1#64) = 0#64 then ((jV x ||| jV y, jM x &&& ~~~ jV y, jA x, jB x, jC x, jD x), y) else if isC y ∧ is = false then ((jV x, jM x &&& ~~~ jV y, jA x, jB x, jC x, jD x), y) else (x, y))
  else if c = 32 then (if is = true then pyx (lesN y x true) else lesN x y false)
  else if c = 48 then (if is = true then pyx (lesN y x false) else lesN x y true)
  else if c = 160 then (if is = true then lesN x y true else pyx (lesN y x false))
  else if c = 176 then (if is = true then lesN x y false else pyx (lesN y x true))
  else if c = 96 then (if is = true then pyx (lesS y x true) else lesS x y false)
  else if c = 112 then (if is = true then pyx (lesS y x false) else lesS x y true)
  else if c = 192 then (if is = true then lesS x y true else pyx (lesS y x false))
  else (if is = true then lesS x y false else pyx (lesS y x true))
abbrev inP (p : N6 × N6) (a b : B64) : Prop := inN p.1 a ∧ inN p.2 b
theorem inP_les {x y : N6} {a b : B64} {t : Bool} (hx : inN x a) (hy : inN y b) (h : a.toNat + (if t = true then 1 else 0) ≤ b.toNat) : inP (lesN x y t) a b := by
  obtain ⟨ox, x1, x2, x3, x4⟩ := hx
  obtain ⟨oy, y1, y2, y3, y4⟩ := hy
  have n1 := nat_rng a
  have n2 := nat_rng b
  have n3 := nat_rng (jB y)
  have n4 := nat_rng (jA x)
  refine ⟨⟨ox, x1, x2, ?_, x4⟩, ⟨oy, y1, ?_, y3, y4⟩⟩
  · show a.toNat ≤ (bmin (jB x) (jB y - (if t = true then 1#64 else 0#64))).toNat
    rw [bmin_toNat, BitVec.toNat_sub]
    cases t
    · have : (if false = true then 1#64 else 0#64).toNat = 0 := rfl
      simp only [if_neg (show ¬ (false = true) by decide)] at h ⊢
      simp
      omega
    · simp only [if_true] at h ⊢
      have : (1#64).toNat = 1 := rfl
      omega
  · show (bmax (jA y) (jA x + (if t = true then 1#64 else 0#64))).toNat ≤ b.toNat
    rw [bmax_toNat, BitVec.toNat_add]
    cases t
    · simp only [if_neg (show ¬ (false = true) by decide)] at h ⊢
      simp
      omega
    · simp only [if_true] at h ⊢
      have : (1#64).toNat = 1 := rfl
      omega
theorem inP_leS {x y : N6} {a b : B64} {t : Bool} (hx : inN x a) (hy : inN y b) (h : a.toInt + (if t = true then 1 else 0) ≤ b.toInt) : inP (lesS x y t) a b := by
  obtain ⟨ox, x1, x2, x3, x4, x5⟩ := hx
  obtain ⟨oy, y1, y2, y3, y4, y5⟩ := hy
  have n1 := BitVec.le_toInt a
  have n2 := BitVec.toInt_lt (x := b)
  have n3 := BitVec.toInt_lt (x := jD y)
  have n4 := BitVec.le_toInt (jC x)
  have e1 : (1#64).toInt = 1 := by decide
  have e0 : (0#64).toInt = 0 := by decide
  refine ⟨⟨ox, x1, x2, x3, x4, ?_⟩, ⟨oy, y1, y2, y3, ?_, y5⟩⟩
  · show a.toInt ≤ (smin (jD x) (jD y - (if t = true then 1#64 else 0#64))).toInt
    rw [smin_toInt, BitVec.toInt_sub, Int.bmod_def]
    cases t
    · simp only [if_neg (show ¬ (false = true) by decide)] at h ⊢
      omega
    · simp only [if_true] at h ⊢
      omega
  · show (smax (jC y) (jC x + (if t = true then 1#64 else 0#64))).toInt ≤ b.toInt
    rw [smax_toInt, BitVec.toInt_add, Int.bmod_def]
    cases t
    · simp only [if_neg (show ¬ (false = true) by decide)] at h ⊢
      omega
    · simp only [if_true] at h ⊢
      omega
theorem inN_both {x y : N6} {a : B64} (hx : inN x a) (hy : inN y a) : inN (bothN x y) a := by
  obtain ⟨ox, x1, x2, x3, x4, x5⟩ := hx
  obtain ⟨oy, y1, y2, y3, y4, y5⟩ := hy
  refine ⟨fun i h => ?_, fun i h => ?_, ?_, ?_, ?_, ?_⟩
  · have h : (jM x &&& jM y).getLsbD i = true := h
    show (jV x ||| jV y).getLsbD i = false
    rw [BitVec.getLsbD_and] at h
    simp only [Bool.and_eq_true] at h
    rw [BitVec.getLsbD_or, ox i h.1, oy i h.2]
    rfl
  · have h : (jM x &&& jM y).getLsbD i = false := h
    show a.getLsbD i = (jV x ||| jV y).getLsbD i
    rw [BitVec.getLsbD_and] at h
    rw [BitVec.getLsbD_or]
    have a1 := x1 i
    have a2 := y1 i
    have b1 := ox i
    have b2 := oy i
    revert h a1 a2 b1 b2
    cases (jM x).getLsbD i <;> cases (jM y).getLsbD i <;> cases (jV x).getLsbD i <;> cases (jV y).getLsbD i <;> cases a.getLsbD i <;> simp
  · show (bmax (jA x) (jA y)).toNat ≤ _
    rw [bmax_toNat]; omega
  · show _ ≤ (bmin (jB x) (jB y)).toNat
    rw [bmin_toNat]; omega
  · show (smax (jC x) (jC y)).toInt ≤ _
    rw [smax_toInt]; omega
  · show _ ≤ (smin (jD x) (jD y)).toInt
    rw [smin_toInt]; omega
theorem inN_not {o : N6} {a c : B64} (h : inN o a) (hn : ¬ a = c) : inN (notN o c) a := by
  obtain ⟨oo, o1, o2, o3, o4, o5⟩ := h
  have hn1 : ¬ a.toNat = c.toNat := fun e => hn (BitVec.eq_of_toNat_eq e)
  have hn2 : ¬ a.toInt = c.toInt := fun e => hn (BitVec.eq_of_toInt_eq e)
  have e1 : (1#64).toInt = 1 := by decide
  have e2 : (1#64).toNat = 1 := rfl
  have n1 := nat_rng a
  have n2 := BitVec.toInt_lt (x := a)
  have n3 := BitVec.le_toInt a
  refine ⟨oo, o1, ?_, ?_, ?_, ?_⟩
  · show (if jA o = c then jA o + 1#64 else jA o).toNat ≤ _
    split
    · rename_i q
      rw [BitVec.toNat_add]
      subst q
      omega
    · exact o2
  · show _ ≤ (if jB o = c then jB o - 1#64 else jB o).toNat
    split
    · rename_i q
      rw [BitVec.toNat_sub]
      subst q
      have := nat_rng (jB o)
      omega
    · exact o3
  · show (if jC o = c then jC o + 1#64 else jC o).toInt ≤ _
    split
    · rename_i q
      rw [BitVec.toInt_add, Int.bmod_def]
      subst q
      have := BitVec.le_toInt (jC o)
      omega
    · exact o4
  · show _ ≤ (if jD o = c then jD o - 1#64 else jD o).toInt
    split
    · rename_i q
      rw [BitVec.toInt_sub, Int.bmod_def]
      subst q
      have := BitVec.toInt_lt (x := jD o)
      omega
    · exact o5
theorem inP_unl {x y : N6} {a b : B64} (hx : inN x a) (hy : inN y b) (h : ¬ a = b) : inP (unlN x y) a b := by
  unfold unlN
  split
  · exact ⟨hx, hy⟩
  · split
    · rename_i q
      refine ⟨hx, inN_not hy fun e => h ?_⟩
      rw [gN_const hx.2 q, e]
    · rename_i k q
      have q : isC y := by
        refine Decidable.byContradiction fun p => k ?_
        exact ⟨fun e => absurd e q, fun e => absurd e p⟩
      refine ⟨inN_not hx fun e => h ?_, hy⟩
      rw [gN_const hy.2 q, e]
theorem inN_one {x y : N6} {a b : B64} (hx : inN x a) (hy : inN y b) (hc : isC y) (hs : jV y &&& (jV y - 1#64) = 0#64) (h : ¬ a &&& b = 0#64) : inN (jV x ||| jV y, jM x &&& ~~~ jV y, jA x, jB x, jC x, jD x) a := by
  have e : b = jV y := gN_const hy.2 hc
  rw [e] at h
  have bits : ∀ i, (jV y).getLsbD i = true → a.getLsbD i = true := by
    -- a single bit
    intro i hi
    refine Decidable.byContradiction fun na => h ?_
    have na : a.getLsbD i = false := by simpa using na
    apply BitVec.eq_of_getLsbD_eq
    intro j hj
    rw [BitVec.getLsbD_and]
    by_cases q : j = i
    · subst q; simp [na]
    · have : (jV y).getLsbD j = false := by
        cases c : (jV y).getLsbD j with
        | false => rfl
        | true =>
          exfalso
          -- the lower one of two bits stays
          have key : ∀ p r, p < r → (jV y).getLsbD p = true → (jV y).getLsbD r = true → False := by
            intro p r hpr h1 h2
            have hr : r < 64 := by
              by_cases k : r < 64
              · exact k
              · rw [BitVec.getLsbD_of_ge _ _ (by omega)] at h2
                cases h2
            have h3 := congrArg (fun z => BitVec.getLsbD z r) hs
            have h3 : (jV y &&& (jV y - 1#64)).getLsbD r = (0#64).getLsbD r := h3
            rw [BitVec.getLsbD_and, h2] at h3
            have h4 : (jV y - 1#64).getLsbD r = true := by
              have d : (jV y).toNat % 2 ^ r ≠ 0 := by
                intro z
                have := congrArg (fun n => Nat.testBit n p) z
                have this : Nat.testBit ((jV y).toNat % 2 ^ r) p = Nat.testBit 0 p := this
                rw [Nat.testBit_mod_two_pow, Nat.zero_testBit] at this
                unfold BitVec.getLsbD at h1
                rw [h1] at this
                simp [hpr] at this
              have e1 : (jV y - 1#64).toNat = (jV y).toNat - 1 := by
                rw [BitVec.toNat_sub]
                have l := nat_rng (jV y)
                have one : (1#64).toNat = 1 := rfl
                have : (jV y).toNat ≠ 0 := fun z => d (by rw [z]; simp)
                omega
              have e2 : ((jV y).toNat - 1) / 2 ^ r = (jV y).toNat / 2 ^ r := by
                have p0 : 0 < 2 ^ r := Nat.two_pow_pos r
                have m := Nat.div_add_mod (jV y).toNat (2 ^ r)
                have l := Nat.mod_lt (jV y).toNat p0
                have e3 : (jV y).toNat - 1 = ((jV y).toNat % 2 ^ r - 1) + 2 ^ r * ((jV y).toNat / 2 ^ r) := by omega
                rw [e3, Nat.add_mul_div_left _ _ p0, Nat.div_eq_of_lt (by omega), Nat.zero_add]
              have e4 : (jV y - 1#64) >>> r = (jV y) >>> r := by
                apply BitVec.eq_of_toNat_eq
                rw [BitVec.toNat_ushiftRight, BitVec.toNat_ushiftRight, Nat.shiftRight_eq_div_pow, Nat.shiftRight_eq_div_pow, e1, e2]
              have e5 := congrArg (fun z => BitVec.getLsbD z 0) e4
              have e5 : ((jV y - 1#64) >>> r).getLsbD 0 = ((jV y) >>> r).getLsbD 0 := e5
              rw [BitVec.getLsbD_ushiftRight, BitVec.getLsbD_ushiftRight] at e5
              simpa [h2] using e5
            rw [h4] at h3
            simp at h3
          by_cases lt : i < j
          · exact key i j lt hi c
          · exact key j i (by omega) c hi
      simp [this]
  obtain ⟨ox, x1, x2⟩ := hx
  refine ⟨fun i k => ?_, fun i k => ?_, x2⟩
  · have k : (jM x &&& ~~~ jV y).getLsbD i = true := k
    show (jV x ||| jV y).getLsbD i = false
    rw [BitVec.getLsbD_and, BitVec.getLsbD_not] at k
    simp only [Bool.and_eq_true] at k
    rw [BitVec.getLsbD_or, ox i k.1]
    simpa using k.2.2
  · have k : (jM x &&& ~~~ jV y).getLsbD i = false := k
    show a.getLsbD i = (jV x ||| jV y).getLsbD i
    by_cases lt : i < 64
    · rw [BitVec.getLsbD_and, BitVec.getLsbD_not] at k
      rw [BitVec.getLsbD_or]
      cases c : (jV y).getLsbD i with
      | true => rw [bits i c]; simp
      | false =>
        rw [c] at k
        simp only [lt, decide_true, Bool.not_false, Bool.and_true] at k
        rw [x1 i k]
        simp
    · rw [BitVec.getLsbD_of_ge _ _ (by omega), BitVec.getLsbD_of_ge _ _ (by omega)]
theorem inN_non {x y : N6} {a b : B64} (hx : inN x a) (hy : inN y b) (hc : isC y) (h : a &&& b = 0#64) : inN (jV x, jM x &&& ~~~ jV y, jA x, jB x, jC x, jD x) a := by
  have e : b = jV y := gN_const hy.2 hc
  rw [e] at h
  obtain ⟨ox, x1, x2⟩ := hx
  refine ⟨fun i k => ?_, fun i k => ?_, x2⟩
  · have k : (jM x &&& ~~~ jV y).getLsbD i = true := k
    rw [BitVec.getLsbD_and] at k
    simp only [Bool.and_eq_true] at k
    exact ox i k.1
  · have k : (jM x &&& ~~~ jV y).getLsbD i = false := k
    show a.getLsbD i = (jV x).getLsbD i
    by_cases lt : i < 64
    · rw [BitVec.getLsbD_and, BitVec.getLsbD_not] at k
      cases c : (jM x).getLsbD i with
      | false => exact x1 i c
      | true =>
        rw [c] at k
        have q : (jV y).getLsbD i = true := by simpa [lt] using k
        have hi : (a &&& jV y).getLsbD i = (0#64).getLsbD i := by rw [h]
        rw [BitVec.getLsbD_and, q] at hi
        have hi : a.getLsbD i = false := by simpa using hi
        rw [hi, ox i c]
    · rw [BitVec.getLsbD_of_ge _ _ (by omega), BitVec.getLsbD_of_ge _ _ (by omega)]
theorem inP_pyx {p : N6 × N6} {a b : B64} (h : inP p b a) : inP (pyx p) a b := ⟨h.2, h.1⟩
set_option maxRecDepth 4000 in
theorem inP_nar {c : Int} {is : Bool} {x y : N6} {a b : B64} (hc : isCmp c) (hx : inN x a) (hy : inN y b) (h : cmpB c true a b = is) : inP (narN c is x y) a b := by
  unfold narN
  rcases hc with rfl | rfl | rfl | rfl | rfl | rfl | rfl | rfl | rfl | rfl | rfl
  · rw [cmpB_16] at h
    rw [if_pos (Or.inl rfl)]
    cases is with
    | true =>
      rw [if_pos ⟨fun _ => rfl, fun _ => rfl⟩]
      have h : a = b := of_decide_eq_true h
      subst h
      exact ⟨inN_both hx hy, inN_both hx hy⟩
    | false =>
      rw [if_neg (fun k => by have := k.mp rfl; cases this)]
      exact inP_unl hx hy (of_decide_eq_false h)
  · rw [cmpB_32] at h
    rw [if_neg (by decide), if_neg (by decide), if_pos rfl]
    cases is with
    | true => have h := of_decide_eq_true h; rw [BitVec.lt_def] at h; rw [if_pos rfl]; exact inP_pyx (inP_les hy hx h)
    | false => have h := of_decide_eq_false h; rw [BitVec.lt_def] at h; rw [if_neg (by decide)]; exact inP_les hx hy (by simp; omega)
  · rw [cmpB_48] at h
    rw [if_neg (by decide), if_neg (by decide), if_neg (by decide), if_pos rfl]
    cases is with
    | true => have h := of_decide_eq_true h; rw [BitVec.lt_def] at h; rw [if_pos rfl]; exact inP_pyx (inP_les hy hx (by simp; omega))
    | false => have h := Decidable.not_not.mp (of_decide_eq_false h); rw [BitVec.lt_def] at h; rw [if_neg (by decide)]; exact inP_les hx hy h
  · rw [cmpB_64] at h
    rw [if_neg (by decide), if_pos rfl]
    cases is with
    | true =>
      have h := of_decide_eq_true h
      split
      · rename_i q
        exact ⟨inN_one hx hy q.1 q.2.2 h, hy⟩
      · split
        · rename_i q
          exact absurd q.2 (by decide)
        · exact ⟨hx, hy⟩
    | false =>
      have h := Decidable.not_not.mp (of_decide_eq_false h)
      split
      · rename_i q
        exact absurd q.2.1 (by decide)
      · split
        · rename_i q
          exact ⟨inN_non hx hy q.1 h, hy⟩
        · exact ⟨hx, hy⟩
  · rw [cmpB_80] at h
    rw [if_pos (Or.inr rfl)]
    cases is with
    | true =>
      rw [if_neg (fun k => by have := k.mpr rfl; exact absurd this (by decide))]
      exact inP_unl hx hy (of_decide_eq_true h)
    | false =>
      rw [if_pos ⟨fun k => absurd k (by decide), fun k => by cases k⟩]
      have h : a = b := Decidable.not_not.mp (of_decide_eq_false h)
      subst h
      exact ⟨inN_both hx hy, inN_both hx hy⟩
  · rw [cmpB_96] at h
    simp only [if_true] at h
    rw [if_neg (by decide), if_neg (by decide), if_neg (by decide), if_neg (by decide), if_neg (by decide), if_neg (by decide), if_pos rfl]
    cases is with
    | true => have h := of_decide_eq_true h; rw [if_pos rfl]; exact inP_pyx (inP_leS hy hx h)
    | false => have h := of_decide_eq_false h; rw [if_neg (by decide)]; exact inP_leS hx hy (by simp; omega)
  · rw [cmpB_112] at h
    simp only [if_true] at h
    rw [if_neg (by decide), if_neg (by decide), if_neg (by decide), if_neg (by decide), if_neg (by decide), if_neg (by decide), if_neg (by decide), if_pos rfl]
    cases is with
    | true => have h := of_decide_eq_true h; rw [if_pos rfl]; exact inP_pyx (inP_leS hy hx (by simp; omega))
    | false => have h := Decidable.not_not.mp (of_decide_eq_false h); rw [if_neg (by decide)]; exact inP_leS hx hy h
  · rw [cmpB_160] at h
    rw [if_neg (by decide), if_neg (by decide), if_neg (by decide), if_neg (by decide), if_pos rfl]
    cases is with
    | true => have h := of_decide_eq_true h; rw [BitVec.lt_def] at h; rw [if_pos rfl]; exact inP_les hx hy h
    | false => have h := of_decide_eq_false h; rw [BitVec.lt_def] at h; rw [if_neg (by decide)]; exact inP_pyx (inP_les hy hx (by simp; omega))
  · rw [cmpB_176] at h
    rw [if_neg (by decide), if_neg (by decide), if_neg (by decide), if_neg (by decide), if_neg (by decide), if_pos rfl]
    cases is with
    | true => have h := of_decide_eq_true h; rw [BitVec.lt_def] at h; rw [if_pos rfl]; exact inP_les hx hy (by simp; omega)
    | false => have h := Decidable.not_not.mp (of_decide_eq_false h); rw [BitVec.lt_def] at h; rw [if_neg (by decide)]; exact inP_pyx (inP_les hy hx h)
  · rw [cmpB_192] at h
    simp only [if_true] at h
    rw [if_neg (by decide), if_neg (by decide), if_neg (by decide), if_neg (by decide), if_neg (by decide), if_neg (by decide), if_neg (by decide), if_neg (by decide), if_pos rfl]
    cases is with
    | true => have h := of_decide_eq_true h; rw [if_pos rfl]; exact inP_leS hx hy h
    | false => have h := of_decide_eq_false h; rw [if_neg (by decide)]; exact inP_pyx (inP_leS hy hx (by simp; omega))
  · rw [cmpB_208] at h
    simp only [if_true] at h
    rw [if_neg (by decide), if_neg (by decide), if_neg (by decide), if_neg (by decide), if_neg (by decide), if_neg (by decide), if_neg (by decide), if_neg (by decide), if_neg (by decide)]
    cases is with
    | true => have h := of_decide_eq_true h; rw [if_pos rfl]; exact inP_leS hx hy (by simp; omega)
    | false => have h := Decidable.not_not.mp (of_decide_eq_false h); rw [if_neg (by decide)]; exact inP_pyx (inP_leS hy hx h)
/-- what cannot be above F is as it is when it is cut -/
theorem cut_id {x : N6} {a : B64} (hx : inN x a) (h : ¬ cF < jB x) : a &&& cF = a := by
  obtain ⟨_, _, x2, x3, _⟩ := hx
  rw [BitVec.lt_def, cF_toNat] at h
  apply BitVec.eq_of_toNat_eq
  rw [low32]
  omega
