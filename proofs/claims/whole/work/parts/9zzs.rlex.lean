/-! ===== texts: bytes and tokens (pure), the reference's tokens ===== -/
/-- kind (0 END 1 LINE 2 NAME 3 NUMBER 4 SIGN 5 other), begin, end, a number, a sign (or whether a number is too great) -/
abbrev TK : Type := Int × Nat × Nat × B64 × Int
abbrev tK (T : TK) : Int := T.1
abbrev tB (T : TK) : Nat := T.2.1
abbrev tE (T : TK) : Nat := T.2.2.1
abbrev tV (T : TK) : B64 := T.2.2.2.1
abbrev tkS (T : TK) : Int := T.2.2.2.2
/-- a byte of the text, -1 behind its end -/
def pk (t : Nat → Int) (n i : Nat) : Int := if i < n then t i % 256 else -1
abbrev isDg (c : Int) : Prop := 48 ≤ c ∧ c ≤ 57
abbrev isLt (c : Int) : Prop := (97 ≤ c ∧ c ≤ 122) ∨ (65 ≤ c ∧ c ≤ 90) ∨ c = 95
def hexV (c : Int) : Int := if isDg c then c - 48 else if 97 ≤ c ∧ c ≤ 102 then c - 97 + 10 else if 65 ≤ c ∧ c ≤ 70 then c - 65 + 10 else -1
def whl (P : Nat → Bool) : Nat → Nat → Nat
  | 0, i => i
  | f + 1, i => if P i = true then whl P f (i + 1) else i
/-- the first place from i on where P doesn't hold (P holds below n alone) -/
def wh (n : Nat) (P : Nat → Bool) (i : Nat) : Nat := whl P (n - i) i
def blP (t : Nat → Int) (n j : Nat) : Bool := decide (pk t n j = 32 ∨ pk t n j = 9)
def lnP (t : Nat → Int) (n j : Nat) : Bool := decide (¬ (pk t n j = 10 ∨ pk t n j = -1))
def nmP (t : Nat → Int) (n j : Nat) : Bool := decide (isLt (pk t n j) ∨ isDg (pk t n j))
/-- where the next token begins -/
def beg (t : Nat → Int) (n i : Nat) : Nat := if pk t n (wh n (blP t n) i) = 59 then wh n (lnP t n) (wh n (blP t n) i) else wh n (blP t n) i
/-- one digit more: the value, whether it is too great -/
def dgS (x : Bool) (d : Int) (q : B64 × Int) : B64 × Int := (q.1 * iL (if x = true then 16 else 10) + iL d, if q.2 = 1 then 1 else if x = true then (if iL 1152921504606846975 < q.1 then 1 else 0) else (if iL 1844674407370955161 < q.1 ∨ (q.1 = iL 1844674407370955161 ∧ 5 < d) then 1 else 0))
abbrev dgP (x : Bool) (c : Int) : Prop := if x = true then 0 ≤ hexV c else isDg c
def nuL (t : Nat → Int) (n : Nat) (x : Bool) : Nat → Nat → B64 × Int → Nat × (B64 × Int)
  | 0, i, q => (i, q)
  | f + 1, i, q => if dgP x (pk t n i) then nuL t n x f (i + 1) (dgS x (hexV (pk t n i)) q) else (i, q)
def isHx (t : Nat → Int) (n j : Nat) : Bool := decide (pk t n j = 48 ∧ pk t n (j + 1) = 120 ∧ 0 ≤ hexV (pk t n (j + 2)))
def nuT (t : Nat → Int) (n j : Nat) : Nat × (B64 × Int) := if isHx t n j = true then nuL t n true (n - (j + 2)) (j + 2) (0, 0) else nuL t n false (n - j) j (0, 0)
abbrev sg1 (c : Int) : Prop := c = 40 ∨ c = 41 ∨ c = 58 ∨ c = 44 ∨ c = 61 ∨ c = 43 ∨ c = 45 ∨ c = 42 ∨ c = 47 ∨ c = 37 ∨ c = 38 ∨ c = 124 ∨ c = 94 ∨ c = 60 ∨ c = 62
abbrev sg2 (c : Int) : Prop := c = 61 ∨ c = 33 ∨ c = 43 ∨ c = 45 ∨ c = 42 ∨ c = 47 ∨ c = 37 ∨ c = 38 ∨ c = 124 ∨ c = 94 ∨ c = 60 ∨ c = 62
def sgT (c d e : Int) (j : Nat) : TK := if (c = 60 ∨ c = 62) ∧ d = c ∧ e = 61 then (4, j, j + 3, 0, c * 65536 + d * 256 + e) else if d = 61 ∧ sg2 c then (4, j, j + 2, 0, c * 256 + d) else if sg1 c then (4, j, j + 1, 0, c) else (5, j, j + 1, 0, 0)
/-- the token that begins there -/
def tok (t : Nat → Int) (n j : Nat) : TK := if pk t n j = -1 then (0, j, j, 0, 0) else if pk t n j = 10 then (1, j, j + 1, 0, 0) else if isLt (pk t n j) then (2, j, wh n (nmP t n) j, 0, 0) else if isDg (pk t n j) then (3, j, (nuT t n j).1, (nuT t n j).2.1, (nuT t n j).2.2) else sgT (pk t n j) (pk t n (j + 1)) (pk t n (j + 2)) j
def tks (t : Nat → Int) (n : Nat) : Nat → TK
  | 0 => tok t n (beg t n 0)
  | k + 1 => tok t n (beg t n (tE (tks t n k)))
section LEX
variable {t : Nat → Int} {n i j k : Nat} {P : Nat → Bool} {σ τ : MS} {c : Int}
theorem pk_0 (h : n ≤ i) : pk t n i = -1 := if_neg (Nat.not_lt.mpr h)
theorem pk_1 (h : i < n) : pk t n i = t i % 256 := if_pos h
theorem pk_b : -1 ≤ pk t n i ∧ pk t n i < 256 := by
  unfold pk
  split <;> omega
theorem pk_p (h : 0 ≤ pk t n i) : i < n := by
  refine Classical.byContradiction fun c => ?_
  rw [pk_0 (by omega)] at h
  omega
theorem wh_e (h : ∀ j, n ≤ j → P j = false) : wh n P i = if P i = true then wh n P (i + 1) else i := by
  unfold wh
  by_cases c : i < n
  · have e : n - i = (n - (i + 1)) + 1 := by omega
    rw [e]
    rfl
  · rw [h i (by omega), show n - i = 0 by omega]
    rfl
theorem bl_n (j : Nat) (h : n ≤ j) : blP t n j = false := by
  unfold blP
  rw [pk_0 h]
  decide
theorem ln_n (j : Nat) (h : n ≤ j) : lnP t n j = false := by
  unfold lnP
  rw [pk_0 h]
  decide
theorem nm_n (j : Nat) (h : n ≤ j) : nmP t n j = false := by
  unfold nmP
  rw [pk_0 h]
  decide
theorem whl_le : ∀ (f i : Nat), i ≤ whl P f i ∧ whl P f i ≤ i + f := by
  intro f
  induction f with
  | zero => intro i; exact ⟨Nat.le_refl _, Nat.le_refl _⟩
  | succ f ih =>
    intro i
    show i ≤ (if P i = true then whl P f (i + 1) else i) ∧ (if P i = true then whl P f (i + 1) else i) ≤ i + (f + 1)
    have := ih (i + 1)
    split <;> omega
theorem wh_le (h : i ≤ n) : i ≤ wh n P i ∧ wh n P i ≤ n := by
  have := whl_le (P := P) (n - i) i
  unfold wh
  omega
theorem whl_at : ∀ (f i : Nat), (∀ j, i + f ≤ j → P j = false) → P (whl P f i) = false := by
  intro f
  induction f with
  | zero => intro i h; exact h i (by omega)
  | succ f ih =>
    intro i h
    show P (if P i = true then whl P f (i + 1) else i) = false
    by_cases c : P i = true
    · rw [if_pos c]
      exact ih (i + 1) (fun j hj => h j (by omega))
    · rw [if_neg c]
      exact Bool.eq_false_iff.mpr c
theorem wh_at (hi : i ≤ n) (h : ∀ j, n ≤ j → P j = false) : P (wh n P i) = false := whl_at _ _ (fun j hj => h j (by omega))
theorem beg_le (h : i ≤ n) : i ≤ beg t n i ∧ beg t n i ≤ n := by
  have a := wh_le (P := blP t n) h
  have b := wh_le (P := lnP t n) a.2
  unfold beg
  split <;> omega
theorem nuL_le {x : Bool} : ∀ (f i : Nat) (q : B64 × Int), i ≤ (nuL t n x f i q).1 ∧ (nuL t n x f i q).1 ≤ i + f := by
  intro f
  induction f with
  | zero => intro i q; exact ⟨Nat.le_refl _, Nat.le_refl _⟩
  | succ f ih =>
    intro i q
    show i ≤ (if dgP x (pk t n i) then nuL t n x f (i + 1) (dgS x (hexV (pk t n i)) q) else (i, q)).1 ∧ (if dgP x (pk t n i) then nuL t n x f (i + 1) (dgS x (hexV (pk t n i)) q) else (i, q)).1 ≤ i + (f + 1)
    have := ih (i + 1) (dgS x (hexV (pk t n i)) q)
    by_cases c : dgP x (pk t n i)
    · rw [if_pos c]; omega
    · rw [if_neg c]
      exact ⟨Nat.le_refl _, Nat.le_add_right _ _⟩
theorem hx_p (h : isHx t n j = true) : pk t n j = 48 ∧ pk t n (j + 1) = 120 ∧ 0 ≤ hexV (pk t n (j + 2)) := of_decide_eq_true h
theorem hexV_m : hexV (-1) = -1 := by decide
theorem hx_n (h : isHx t n j = true) : j + 2 < n := by
  have := (hx_p h).2.2
  refine Classical.byContradiction fun c => ?_
  rw [pk_0 (by omega), hexV_m] at this
  omega
theorem dg_hex (h : isDg c) : hexV c = c - 48 := if_pos h
theorem nuT_le (hd : isDg (pk t n j)) : j < (nuT t n j).1 ∧ (nuT t n j).1 ≤ n := by
  have hj : j < n := pk_p (t := t) (by have := hd.1; omega)
  unfold nuT
  by_cases c : isHx t n j = true
  · rw [if_pos c]
    have := nuL_le (t := t) (n := n) (x := true) (n - (j + 2)) (j + 2) (0, 0)
    have := hx_n c
    omega
  · rw [if_neg c]
    have e : n - j = (n - (j + 1)) + 1 := by omega
    rw [e]
    show j < (if dgP false (pk t n j) then nuL t n false (n - (j + 1)) (j + 1) (dgS false (hexV (pk t n j)) (0, 0)) else (j, (0, 0))).1 ∧ _
    have d : dgP false (pk t n j) := hd
    have u : nuL t n false (n - (j + 1) + 1) j (0, 0) = nuL t n false (n - (j + 1)) (j + 1) (dgS false (hexV (pk t n j)) (0, 0)) := if_pos d
    rw [if_pos d, u]
    have := nuL_le (t := t) (n := n) (x := false) (n - (j + 1)) (j + 1) (dgS false (hexV (pk t n j)) (0, 0))
    omega
/-- what is known of every token -/
theorem tok_b : tB (tok t n j) = j := by
  unfold tok sgT
  repeat' split
  all_goals rfl
theorem sgT_k {c d e : Int} : tK (sgT c d e j) = 4 ∨ tK (sgT c d e j) = 5 := by
  unfold sgT
  split
  · exact Or.inl rfl
  · split
    · exact Or.inl rfl
    · split
      · exact Or.inl rfl
      · exact Or.inr rfl
theorem tok_0 (h : tK (tok t n j) = 0) : n ≤ j := by
  unfold tok at h
  split at h
  · rename_i c
    unfold pk at c
    split at c
    · omega
    · omega
  · split at h
    · cases h
    · split at h
      · cases h
      · split at h
        · cases h
        · rcases sgT_k (c := pk t n j) (d := pk t n (j + 1)) (e := pk t n (j + 2)) (j := j) with q | q <;> rw [q] at h <;> cases h
theorem tok_end (h : n ≤ j) : tok t n j = (0, j, j, 0, 0) := by
  unfold tok
  rw [pk_0 h, if_pos rfl]
theorem wh_nm (h : isLt (pk t n j)) : j < wh n (nmP t n) j := by
  have b : nmP t n j = true := decide_eq_true (Or.inl h)
  rw [wh_e nm_n, if_pos b]
  have hj : j < n := pk_p (t := t) (by rcases h with h | h | h <;> omega)
  have := (wh_le (P := nmP t n) (show j + 1 ≤ n by omega)).1
  omega
theorem sgT_e {c d e : Int} (h : j < n) (hd : j + 1 < n ∨ d = -1) (he : j + 2 < n ∨ e = -1) : j < tE (sgT c d e j) ∧ tE (sgT c d e j) ≤ n := by
  unfold sgT
  split
  · rename_i q
    have := q.2.2
    exact ⟨by show j < j + 3; omega, by show j + 3 ≤ n; omega⟩
  · split
    · rename_i q
      have := q.1
      exact ⟨by show j < j + 2; omega, by show j + 2 ≤ n; omega⟩
    · split
      · exact ⟨by show j < j + 1; omega, by show j + 1 ≤ n; omega⟩
      · exact ⟨by show j < j + 1; omega, by show j + 1 ≤ n; omega⟩
theorem pk_or : i < n ∨ pk t n i = -1 := by
  by_cases c : i < n
  · exact Or.inl c
  · exact Or.inr (pk_0 (by omega))
theorem tok_e (h : j < n) : j < tE (tok t n j) ∧ tE (tok t n j) ≤ n := by
  unfold tok
  split
  · rename_i c
    rw [pk_1 h] at c
    omega
  · split
    · exact ⟨by show j < j + 1; omega, by show j + 1 ≤ n; omega⟩
    · split
      · rename_i c
        exact ⟨wh_nm c, (wh_le (by omega)).2⟩
      · split
        · rename_i c
          exact nuT_le c
        · exact sgT_e h pk_or pk_or
theorem tok_le (h : j ≤ n) : j ≤ tE (tok t n j) ∧ tE (tok t n j) ≤ n := by
  by_cases c : j < n
  · have := tok_e (t := t) c
    omega
  · rw [tok_end (by omega)]
    exact ⟨Nat.le_refl _, h⟩
theorem tks_le : ∀ k, tB (tks t n k) ≤ tE (tks t n k) ∧ tE (tks t n k) ≤ n := by
  intro k
  have aux : ∀ i, i ≤ n → tB (tok t n (beg t n i)) ≤ tE (tok t n (beg t n i)) ∧ tE (tok t n (beg t n i)) ≤ n := fun i hi => by
    rw [tok_b]
    exact tok_le (beg_le hi).2
  induction k with
  | zero => exact aux 0 (by omega)
  | succ k ih => exact aux _ ih.2
/-- signs as they come -/
def sgL : List Int := [40, 41, 58, 44, 61, 43, 45, 42, 47, 37, 38, 124, 94, 60, 62, 15677, 8509, 11069, 11581, 10813, 12093, 9533, 9789, 31805, 24125, 15421, 15933, 3947581, 4079165]
theorem sgT_s {c d e : Int} (h : tK (sgT c d e j) = 4) : tkS (sgT c d e j) ∈ sgL := by
  unfold sgT at h ⊢
  split at h
  · rename_i q
    rw [if_pos q]
    obtain ⟨q1, q2, q3⟩ := q
    show (c * 65536 + d * 256 + e : Int) ∈ sgL
    rcases q1 with q1 | q1 <;> subst q1 <;> subst q2 <;> subst q3 <;> decide
  · rename_i q
    rw [if_neg q]
    split at h
    · rename_i r
      rw [if_pos r]
      obtain ⟨r1, r2⟩ := r
      show (c * 256 + d : Int) ∈ sgL
      rcases r2 with r2 | r2 | r2 | r2 | r2 | r2 | r2 | r2 | r2 | r2 | r2 | r2 <;> subst r2 <;> subst r1 <;> decide
    · rename_i r
      rw [if_neg r]
      split at h
      · rename_i s
        rw [if_pos s]
        show (c : Int) ∈ sgL
        rcases s with s | s | s | s | s | s | s | s | s | s | s | s | s | s | s <;> subst s <;> decide
      · cases h
theorem tok_s (h : tK (tok t n j) = 4) : tkS (tok t n j) ∈ sgL := by
  unfold tok at h ⊢
  split at h
  · cases h
  · rename_i a
    rw [if_neg a]
    split at h
    · cases h
    · rename_i b
      rw [if_neg b]
      split at h
      · cases h
      · rename_i c
        rw [if_neg c]
        split at h
        · cases h
        · rename_i d
          rw [if_neg d]
          exact sgT_s h
theorem tks_t : ∀ k, ∃ j, j ≤ n ∧ tks t n k = tok t n j := by
  intro k
  cases k with
  | zero => exact ⟨_, (beg_le (by omega)).2, rfl⟩
  | succ k => exact ⟨_, (beg_le (tks_le k).2).2, rfl⟩
theorem tks_s (h : tK (tks t n k) = 4) : tkS (tks t n k) ∈ sgL := by
  obtain ⟨j, -, e⟩ := tks_t (t := t) (n := n) k
  rw [e] at h ⊢
  exact tok_s h
end LEX
