/-! ===== bytes of a stack that are set, one by one ===== -/
def fo (b k c a : Nat) : Nat := (List.range 8).foldl (fun (a : Nat) i => if b ≤ c + i ∧ c + i < b + k then a ||| 1 <<< i else a) a
theorem put_v {S : ST} {f b n k j : Nat} : sV (putB S f b n k) j = if 26 * f + 10 + b / 8 ≤ j ∧ j ≤ 26 * f + 10 + (b + n - 1) / 8 ∧ 0 < n then (vk (unpV (sV S j)), vn (unpV (sV S j)), vo (unpV (sV S j)), vw (unpV (sV S j)), ((fo b k (8 * (j - (26 * f + 10))) (vr (unpV (sV S j))).toNat : Nat) : Int), vt (unpV (sV S j))) else sV S j := rfl
theorem fold_t (p : Nat → Bool) (t : Nat) : ∀ (l : List Nat) (a : Nat), (l.foldl (fun (a : Nat) i => if p i = true then a ||| 1 <<< i else a) a).testBit t = (a.testBit t || (l.any fun i => p i && decide (i = t))) := by
  intro l
  induction l with
  | nil => intro a; simp
  | cons i l ih =>
    intro a
    rw [List.foldl_cons, ih, List.any_cons]
    by_cases h : p i = true
    · rw [if_pos h, Nat.testBit_or, Nat.one_shiftLeft, Nat.testBit_two_pow, h, Bool.true_and, Bool.or_assoc]
    · rw [if_neg h]
      have h' : p i = false := by simpa using h
      rw [h', Bool.false_and, Bool.false_or]
theorem fo_t (b k c a t : Nat) : (fo b k c a).testBit t = (a.testBit t || decide (t < 8 ∧ b ≤ c + t ∧ c + t < b + k)) := by
  have h := fold_t (fun i => decide (b ≤ c + i ∧ c + i < b + k)) t (List.range 8) a
  simp only [decide_eq_true_eq] at h
  unfold fo
  rw [h]
  congr 1
  by_cases q : t < 8 ∧ b ≤ c + t ∧ c + t < b + k
  · rw [decide_eq_true q, List.any_eq_true]
    exact ⟨t, List.mem_range.mpr q.1, by simp [q.2]⟩
  · rw [decide_eq_false q, List.any_eq_false]
    intro i hi
    have := List.mem_range.mp hi
    simp only [Bool.and_eq_true, decide_eq_true_eq]
    intro z
    apply q
    obtain ⟨z1, z2⟩ := z
    subst z2
    exact ⟨this, z1⟩
theorem fo_same {b k c a k' : Nat} (h : ∀ t, t < 8 → (b ≤ c + t ∧ c + t < b + k ↔ b ≤ c + t ∧ c + t < b + k')) : fo b k c a = fo b k' c a := by
  apply Nat.eq_of_testBit_eq
  intro t
  rw [fo_t, fo_t]
  congr 1
  by_cases q : t < 8
  · have := h t q
    exact decide_eq_decide.mpr ⟨fun z => ⟨z.1, this.mp z.2⟩, fun z => ⟨z.1, this.mpr z.2⟩⟩
  · rw [decide_eq_false (fun z => q z.1), decide_eq_false (fun z => q z.1)]
theorem fo_0 {b c a : Nat} : fo b 0 c a = a := by
  apply Nat.eq_of_testBit_eq
  intro t
  rw [fo_t, decide_eq_false (by omega), Bool.or_false]
theorem fo_o {b k c a : Nat} (h1 : c ≤ b + k) (h2 : b + k < c + 8) : fo b k c a ||| 1 <<< (b + k - c) = fo b (k + 1) c a := by
  apply Nat.eq_of_testBit_eq
  intro t
  rw [Nat.testBit_or, fo_t, fo_t, Nat.one_shiftLeft, Nat.testBit_two_pow, Bool.or_assoc]
  congr 1
  rw [← Bool.decide_or]
  exact decide_eq_decide.mpr (by omega)
theorem unp_0 {v : VL} (h : vk v = 0) : unpV v = v := if_pos h
theorem unp_k (v : VL) : vk (unpV v) = 0 := by
  unfold unpV
  split
  · assumption
  · rfl
theorem st_ext {S T : ST} (h1 : sF S = sF T) (h2 : ∀ j, sV S j = sV T j) (h3 : sB S = sB T) (h4 : sH S = sH T) : S = T := by
  obtain ⟨a, b, c, d⟩ := S
  obtain ⟨a', b', c', d'⟩ := T
  have e1 : a = a' := h1
  have e2 : b = b' := funext h2
  have e3 : c = c' := h3
  have e4 : d = d' := h4
  rw [e1, e2, e3, e4]
/-- one more byte's part has bytes -/
theorem putB_u {S : ST} {f b m k : Nat} (hk : k ≤ m) (h0 : 0 ≤ vr (unpV (sV S (26 * f + 10 + (b + m) / 8)))) : (sF S, upV (sV (putB S f b m k)) (26 * f + 10 + (b + m) / 8) (unpV (sV (putB S f b m k) (26 * f + 10 + (b + m) / 8))), sB S, sH S) = putB S f b (m + 1) k := by
  refine st_ext rfl (fun j => ?_) rfl rfl
  show (if j = 26 * f + 10 + (b + m) / 8 then unpV (sV (putB S f b m k) (26 * f + 10 + (b + m) / 8)) else sV (putB S f b m k) j) = _
  by_cases e : j = 26 * f + 10 + (b + m) / 8
  · rw [if_pos e, ← e]
    rw [← e] at h0
    rw [put_v, put_v (n := m + 1)]
    by_cases c : 26 * f + 10 + b / 8 ≤ j ∧ j ≤ 26 * f + 10 + (b + m - 1) / 8 ∧ 0 < m
    · rw [if_pos c, if_pos (by omega)]
      exact unp_0 (unp_k (sV S j))
    · rw [if_neg c, if_pos (by omega)]
      have z : fo b k (8 * (j - (26 * f + 10))) (vr (unpV (sV S j))).toNat = (vr (unpV (sV S j))).toNat := by
        rw [fo_same (k' := 0) (fun t ht => by omega), fo_0]
      rw [z, Int.toNat_of_nonneg h0]
  · rw [if_neg e, put_v, put_v (n := m + 1)]
    by_cases c : 26 * f + 10 + b / 8 ≤ j ∧ j ≤ 26 * f + 10 + (b + m - 1) / 8 ∧ 0 < m
    · rw [if_pos c, if_pos (by omega)]
    · rw [if_neg c, if_neg (by omega)]
/-- one more byte is set -/
theorem putB_b {S : ST} {f b n k : Nat} (hk : k < n) : (sF S, upV (sV (putB S f b n k)) (26 * f + 10 + (b + k) / 8) (vR (sV (putB S f b n k) (26 * f + 10 + (b + k) / 8)) (((vr (sV (putB S f b n k) (26 * f + 10 + (b + k) / 8))).toNat ||| 1 <<< ((b + k) % 8) : Nat) : Int)), sB S, sH S) = putB S f b n (k + 1) := by
  refine st_ext rfl (fun j => ?_) rfl rfl
  show (if j = 26 * f + 10 + (b + k) / 8 then vR (sV (putB S f b n k) (26 * f + 10 + (b + k) / 8)) (((vr (sV (putB S f b n k) (26 * f + 10 + (b + k) / 8))).toNat ||| 1 <<< ((b + k) % 8) : Nat) : Int) else sV (putB S f b n k) j) = _
  by_cases e : j = 26 * f + 10 + (b + k) / 8
  · rw [if_pos e, ← e]
    have p : sV (putB S f b n k) j = _ := put_v.trans (if_pos (show 26 * f + 10 + b / 8 ≤ j ∧ j ≤ 26 * f + 10 + (b + n - 1) / 8 ∧ 0 < n by omega))
    have q : sV (putB S f b n (k + 1)) j = _ := put_v.trans (if_pos (show 26 * f + 10 + b / 8 ≤ j ∧ j ≤ 26 * f + 10 + (b + n - 1) / 8 ∧ 0 < n by omega))
    rw [p, q]
    have z := fo_o (b := b) (k := k) (c := 8 * (j - (26 * f + 10))) (a := (vr (unpV (sV S j))).toNat) (by omega) (by omega)
    rw [show b + k - 8 * (j - (26 * f + 10)) = (b + k) % 8 by omega] at z
    rw [← z]
    rfl
  · rw [if_neg e, put_v, put_v (k := k + 1)]
    by_cases c : 26 * f + 10 + b / 8 ≤ j ∧ j ≤ 26 * f + 10 + (b + n - 1) / 8 ∧ 0 < n
    · rw [if_pos c, if_pos c, fo_same (k := k) (k' := k + 1) (fun t ht => by omega)]
    · rw [if_neg c, if_neg c]
theorem putB_0 {S : ST} {f b : Nat} : putB S f b 0 0 = S := by
  refine st_ext rfl (fun j => ?_) rfl rfl
  rw [put_v, if_neg (by omega)]
theorem areS_0 {S : ST} {f b : Nat} : areS S f b 0 = true := rfl
theorem areS_s {S : ST} {f b n : Nat} : areS S f b (n + 1) = (areS S f b n && decide (setB S f (b + n))) := by
  unfold areS
  rw [List.range_succ, List.all_append]
  simp
