/-! ===== the reference's judge: what is held; frames; arguments ===== -/
section REL
variable {σ : MS} {S : ST} {t : Int} {F : Nat}
theorem fil_s {L : List Int} {p : Int → Bool} {m : Nat} (h : m < L.length) : (L.take (m + 1)).filter p = (L.take m).filter p ++ (if p (L.getD m 0) = true then [L.getD m 0] else []) := by
  rw [List.take_succ, List.filter_append, List.getD_eq_getElem?_getD, List.getElem?_eq_getElem h]
  congr 1
  simp only [Option.toList_some, Option.getD_some]
  by_cases q : p L[m] = true
  · rw [if_pos q, List.filter_cons_of_pos q]
    rfl
  · rw [if_neg q, List.filter_cons_of_neg q]
    rfl
theorem getD_app {A B : List Int} {j : Nat} (h : j < A.length) : (A ++ B).getD j 0 = A.getD j 0 := by
  rw [List.getD_eq_getElem?_getD, List.getD_eq_getElem?_getD, List.getElem?_append_left h]
theorem getD_end {A : List Int} {x : Int} : (A ++ [x]).getD A.length 0 = x := by
  rw [List.getD_eq_getElem?_getD, List.getElem?_append_right (Nat.le_refl _), Nat.sub_self]
  rfl
theorem w32_s {m : Nat} (h : m < 100000) : w32 ((m : Int) + 1) = ((m + 1 : Nat) : Int) := by
  rw [w32_i (by omega) (by omega)]
  omega
theorem L520 {m : Nat} (h : m < 64) : 0 ≤ (m : Int) ∧ (m : Int) < 20096 := by omega
theorem T520 (hJ : J0 σ S) (hF : sF S ≤ 4) (hH : (sH S).length ≤ 64) : okc (MM 520 [mR (some 80), mI t] σ) none (fun τ => J0 τ (relH S t) ∧ (∀ k s, ¬ (k = 126 ∧ s < 64) → ¬ (k = 125 ∧ s = 0) → gI τ k s = gI σ k s) ∧ (∀ k s, gL τ k s = gL σ k s) ∧ τ.2.2 = σ.2.2) := by
  obtain ⟨j1, j2, j3, j4, j5⟩ := hJ
  obtain ⟨p, hp⟩ : ∃ p : Int → Bool, p = fun h => decide (¬ h = t) := ⟨_, rfl⟩
  have key : ∀ (j m : Nat) (τ : MS), j + m = (sH S).length → (∀ i, i < ((sH S).take m |>.filter p).length → gI τ 126 i = ((sH S).take m |>.filter p).getD i 0) → (∀ i, m ≤ i → gI τ 126 i = gI σ 126 i) → (∀ k s, ¬ (k = 126 ∧ s < 64) → gI τ k s = gI σ k s) → (∀ k s, gL τ k s = gL σ k s) → τ.2.2 = σ.2.2 → okc (RR (lkB tb520) (B520_4, [some (mR (some 80)), some (mI t), some (mI ((((sH S).take m |>.filter p).length : Nat) : Int)), some (mI (m : Int))], [], τ)) none (fun τ => J0 τ (relH S t) ∧ (∀ k s, ¬ (k = 126 ∧ s < 64) → ¬ (k = 125 ∧ s = 0) → gI τ k s = gI σ k s) ∧ (∀ k s, gL τ k s = gL σ k s) ∧ τ.2.2 = σ.2.2) := by
    intro j
    induction j with
    | zero =>
      intro m τ e a1 a2 a3 a4 a5
      have e : m = (sH S).length := by omega
      have l : gI τ 125 0 = ((sH S).length : Int) := (a3 _ _ (by omega)).trans j4
      rw [e520_4]
      simp only [g_125]
      rw [if_pos ⟨by omega, by omega⟩, show (0 : Int).toNat = 0 from rfl, l, if_pos (by omega), if_pos ⟨by omega, by omega⟩]
      have tk : (sH S).take m = sH S := by rw [e]; exact List.take_length
      rw [tk] at a1 ⊢
      refine okc_s ⟨⟨?_, fun k hk => ?_, fun f f1 f2 => ?_, ?_, fun i hi => ?_⟩, fun k s q1 q2 => ?_, a4, a5⟩
      · rw [gI_sI, if_neg (by omega), a3 _ _ (by omega)]
        exact j1
      · have hk : k < 26 * sF S := hk
        rw [aV_sI (by omega)]
        have ev : aV τ (104 * 0 + k) = aV σ (104 * 0 + k) := by
          unfold aV rNv
          rw [a3 _ _ (by omega), a3 _ _ (by omega), a3 _ _ (by omega), a3 _ _ (by omega), a3 _ _ (by omega), a4, a4, a4, a4, a4, a4]
        rw [ev]
        exact j2 k hk
      · rw [gI_sI, if_neg (by omega), a3 _ _ (by omega)]
        exact j3 f f1 f2
      · rw [gI_sI, if_pos ⟨rfl, rfl⟩, hp]
        rfl
      · rw [gI_sI, if_neg (by omega), show 64 * 0 + i = i by omega]
        rw [hp] at a1
        exact a1 i hi
      · rw [gI_sI, if_neg (by omega)]
        exact a3 k s q1
    | succ j ih =>
      intro m τ e a1 a2 a3 a4 a5
      have lm : m < (sH S).length := by omega
      have l : gI τ 125 0 = ((sH S).length : Int) := (a3 _ _ (by omega)).trans j4
      have hm : gI τ 126 m = (sH S).getD m 0 := by
        rw [a2 m (Nat.le_refl _)]
        have := j5 m lm
        rwa [show 64 * 0 + m = m by omega] at this
      have ls : ((sH S).take m |>.filter p).length ≤ m := by
        have := List.length_filter_le p ((sH S).take m)
        rw [List.length_take] at this
        omega
      have fs := fil_s (p := p) lm
      have e1 : j + (m + 1) = (sH S).length := by omega
      have nl : ¬ (((sH S).length : Nat) : Int) ≤ (m : Int) := by omega
      have b1 : 0 ≤ (m : Int) ∧ (m : Int) < 20096 := by omega
      have c6 : ((sH S).take m |>.filter p).length < 64 := by omega
      generalize eL : ((sH S).take m |>.filter p) = L at *
      have b2 : 0 ≤ (L.length : Int) ∧ (L.length : Int) < 20096 := L520 c6
      have m1 : m < 100000 := Nat.lt_of_lt_of_le lm (Nat.le_trans hH (by decide))
      have m2 : L.length < 100000 := Nat.lt_of_lt_of_le c6 (by decide)
      rw [e520_4]
      simp only [g_125, g_126]
      rw [if_pos ⟨Int.le_refl 0, by decide⟩, show (0 : Int).toNat = 0 from rfl, l, if_neg nl, if_pos b1, Int.toNat_natCast, hm]
      by_cases q : (sH S).getD m 0 = t
      · rw [if_pos q, e520_39, w32_s m1]
        have pf : ¬ p ((sH S).getD m 0) = true := by rw [hp, q]; simp
        rw [if_neg pf, List.append_nil] at fs
        have := ih (m + 1) τ e1 (by rw [fs]; exact a1) (fun i hi => a2 i (Nat.le_of_succ_le hi)) a3 a4 a5
        rwa [fs] at this
      · rw [if_neg q, if_pos b1, if_pos b2, e520_39, w32_s m1, w32_s m2, Int.toNat_natCast]
        have pt : p ((sH S).getD m 0) = true := by rw [hp]; exact decide_eq_true q
        rw [if_pos pt] at fs
        have len : L.length + 1 = ((sH S).take (m + 1) |>.filter p).length := by
          rw [fs, List.length_append]
          rfl
        rw [len]
        refine ih (m + 1) _ e1 (fun i hi => ?_) (fun i hi => ?_) (fun k s r => ?_) a4 a5
        · rw [fs] at hi ⊢
          rw [List.length_append] at hi
          have hi : i < L.length + 1 := hi
          rw [gI_sI]
          by_cases z : i = L.length
          · rw [if_pos ⟨rfl, z⟩, z, getD_end]
          · have i2 : i < L.length := Nat.lt_of_le_of_ne (Nat.le_of_lt_succ hi) z
            rw [if_neg (fun y => z y.2), getD_app i2]
            exact a1 i i2
        · have i3 : ¬ (126 = 126 ∧ i = L.length) := fun y => absurd (Nat.le_trans hi (Nat.le_of_eq y.2)) (Nat.not_le_of_lt (Nat.lt_succ_of_le ls))
          rw [gI_sI, if_neg i3]
          exact a2 i (Nat.le_of_succ_le hi)
        · rw [gI_sI, if_neg (fun y => r ⟨y.1, by rw [y.2]; exact c6⟩)]
          exact a3 k s r
  rw [M520, e520_0]
  have := key (sH S).length 0 σ (by omega) (fun i hi => by simp at hi) (fun _ _ => rfl) (fun _ _ _ => rfl) (fun _ _ => rfl) rfl
  first
  | exact this
  | simpa using this
/-- the state NOW alone may be touched -/
abbrev jN (k s : Nat) : Prop := ((118 ≤ k ∧ k ≤ 122) ∧ s < 104) ∨ ((k = 123 ∨ k = 125) ∧ s = 0) ∨ (k = 124 ∧ s < 4) ∨ (k = 126 ∧ s < 64)
def nq (τ σ : MS) : Prop := (∀ k s, ¬ jN k s → gI τ k s = gI σ k s) ∧ (∀ k s, ¬ ((112 ≤ k ∧ k ≤ 117) ∧ s < 104) → gL τ k s = gL σ k s) ∧ τ.2.2 = σ.2.2
theorem nq_r (σ : MS) : nq σ σ := ⟨fun _ _ _ => rfl, fun _ _ _ => rfl, rfl⟩
theorem nq_t {a b c : MS} (h1 : nq a b) (h2 : nq b c) : nq a c := ⟨fun k s p => (h1.1 k s p).trans (h2.1 k s p), fun k s p => (h1.2.1 k s p).trans (h2.2.1 k s p), h1.2.2.trans h2.2.2⟩
theorem nq_jq {a b : MS} (h : nq a b) : jq a b := ⟨fun k s p => h.1 k s (by omega), fun k s p => h.2.1 k s (by omega), h.2.2⟩
theorem nq_I {a b : MS} {k s : Nat} (h : nq a b) (p : ¬ jN k s) : gI a k s = gI b k s := h.1 k s p
theorem nq_J {a b : MS} {i : Nat} {T : ST} (h : nq a b) (hi : 1 ≤ i) (hF : sF T ≤ 4) (hH : (sH T).length ≤ 64) (j : JSt b i T) : JSt a i T := by
  obtain ⟨j1, j2, j3, j4, j5⟩ := j
  refine ⟨(h.1 _ _ (by omega)).trans j1, fun k hk => ?_, fun f f1 f2 => (h.1 _ _ (by omega)).trans (j3 f f1 f2), (h.1 _ _ (by omega)).trans j4, fun m hm => (h.1 _ _ (by omega)).trans (j5 m hm)⟩
  rw [← j2 k hk]
  unfold aV rNv
  rw [h.1 _ _ (by omega), h.1 _ _ (by omega), h.1 _ _ (by omega), h.1 _ _ (by omega), h.1 _ _ (by omega), h.2.1 _ _ (by omega), h.2.1 _ _ (by omega), h.2.1 _ _ (by omega), h.2.1 _ _ (by omega), h.2.1 _ _ (by omega), h.2.1 _ _ (by omega)]
theorem rel_nq {τ σ : MS} (h1 : ∀ k s, ¬ (k = 126 ∧ s < 64) → ¬ (k = 125 ∧ s = 0) → gI τ k s = gI σ k s) (h2 : ∀ k s, gL τ k s = gL σ k s) (h3 : τ.2.2 = σ.2.2) : nq τ σ := ⟨fun k s p => h1 k s (by omega) (by omega), fun k s _ => h2 k s, h3⟩
theorem ap_nq {g : VL → VL} {n : Nat} (h : n ≤ 104) : nq (apS σ g n) σ := ⟨fun k s p => ap_I (by omega), fun k s p => ap_L (by omega), ap_r n⟩
/-- what may be 0 is 0 -/
theorem T518 {k : Int} (hJ : J0 σ S) (hF : sF S ≤ 4) (hH : (sH S).length ≤ 64) : okc (MM 518 [mR (some 80), mI t, mI k] σ) none (fun τ => J0 τ (becZ S t k) ∧ nq τ σ) := by
  rw [M518, e518_0, L518 hJ.1 hF]
  have ja := ap_J0 (g := zerV t) hF hJ
  have fa : gI (apS σ (zerV t) (26 * sF S)) 123 0 = (sF S : Int) := ja.1
  have qa : nq (apS σ (zerV t) (26 * sF S)) σ := ap_nq (by omega)
  unfold becZ
  generalize apS σ (zerV t) (26 * sF S) = ρ at *
  rw [e518_2]
  simp only [g_123]
  rw [if_pos ⟨by omega, by omega⟩, show (0 : Int).toNat = 0 from rfl, fa, w32_i (by omega) (by omega), if_pos (by omega)]
  by_cases c : k = 10
  · rw [if_neg (not_not_intro c), if_pos c]
    refine okc_b (T520 ja hF hH) fun τ q => ?_
    simp only [Option.toList_none, List.nil_append, e518_56]
    exact okc_s ⟨q.1, nq_t (rel_nq q.2.1 q.2.2.1 q.2.2.2) qa⟩
  · rw [if_pos c, if_neg c, e518_56]
    exact okc_s ⟨ja, qa⟩
/-! functions -/
theorem cl_V {a n i : Nat} : aV (clS σ a n) i = if a ≤ i ∧ i < a + n then unsV else aV σ i := by
  induction n with
  | zero => rw [if_neg (by omega)]; rfl
  | succ n ih =>
    show aV (wrV (clS σ a n) (a + n) unsV) i = _
    rw [aV_wrV]
    by_cases e : i = a + n
    · rw [if_pos e, if_pos (by omega)]
    · rw [if_neg e, ih]
      by_cases l : a ≤ i ∧ i < a + n
      · rw [if_pos l, if_pos (by omega)]
      · rw [if_neg l, if_neg (by omega)]
theorem cl_I {a n k s : Nat} (h : ¬ ((118 ≤ k ∧ k ≤ 122) ∧ a ≤ s ∧ s < a + n)) : gI (clS σ a n) k s = gI σ k s := by
  induction n with
  | zero => rfl
  | succ n ih =>
    show gI (wrV (clS σ a n) (a + n) unsV) k s = _
    by_cases e : s = a + n
    · rw [gI_wrV_o (by omega)]
      exact ih (by omega)
    · rw [gI_wrV_s e]
      exact ih (by omega)
theorem cl_L {a n k s : Nat} (h : ¬ ((112 ≤ k ∧ k ≤ 117) ∧ a ≤ s ∧ s < a + n)) : gL (clS σ a n) k s = gL σ k s := by
  induction n with
  | zero => rfl
  | succ n ih =>
    show gL (wrV (clS σ a n) (a + n) unsV) k s = _
    by_cases e : s = a + n
    · rw [gL_wrV_o (by omega)]
      exact ih (by omega)
    · rw [gL_wrV_s e]
      exact ih (by omega)
theorem cl_r {a : Nat} : ∀ n : Nat, (clS σ a n).2.2 = σ.2.2
  | 0 => rfl
  | n + 1 => cl_r (a := a) n
/-- five places after another: those of another's -/
def cp5 (σ : MS) (a b : Nat) : Nat → MS
  | 0 => σ
  | n + 1 => wrV (cp5 σ a b n) (b + (n + 1)) (aV (cp5 σ a b n) (a + (n + 1)))
theorem c5_V {a b n i : Nat} (h : a + n ≤ b) : aV (cp5 σ a b n) i = if b + 1 ≤ i ∧ i ≤ b + n then aV σ (i - b + a) else aV σ i := by
  induction n generalizing i with
  | zero => rw [if_neg (by omega)]; rfl
  | succ n ih =>
    show aV (wrV (cp5 σ a b n) (b + (n + 1)) (aV (cp5 σ a b n) (a + (n + 1)))) i = _
    rw [aV_wrV]
    by_cases e : i = b + (n + 1)
    · rw [if_pos e, if_pos (by omega), ih (by omega), if_neg (by omega), show i - b + a = a + (n + 1) by omega]
    · rw [if_neg e, ih (by omega)]
      by_cases l : b + 1 ≤ i ∧ i ≤ b + n
      · rw [if_pos l, if_pos (by omega)]
      · rw [if_neg l, if_neg (by omega)]
theorem c5_I {a b n k s : Nat} (h : ¬ ((118 ≤ k ∧ k ≤ 122) ∧ b < s ∧ s ≤ b + n)) : gI (cp5 σ a b n) k s = gI σ k s := by
  induction n with
  | zero => rfl
  | succ n ih =>
    show gI (wrV (cp5 σ a b n) (b + (n + 1)) _) k s = _
    by_cases e : s = b + (n + 1)
    · rw [gI_wrV_o (by omega)]
      exact ih (by omega)
    · rw [gI_wrV_s e]
      exact ih (by omega)
theorem c5_L {a b n k s : Nat} (h : ¬ ((112 ≤ k ∧ k ≤ 117) ∧ b < s ∧ s ≤ b + n)) : gL (cp5 σ a b n) k s = gL σ k s := by
  induction n with
  | zero => rfl
  | succ n ih =>
    show gL (wrV (cp5 σ a b n) (b + (n + 1)) _) k s = _
    by_cases e : s = b + (n + 1)
    · rw [gL_wrV_o (by omega)]
      exact ih (by omega)
    · rw [gL_wrV_s e]
      exact ih (by omega)
theorem c5_r {a b : Nat} : ∀ n : Nat, (cp5 σ a b n).2.2 = σ.2.2
  | 0 => rfl
  | n + 1 => c5_r (a := a) (b := b) n
/-- the store behind a FUNCTION's beginning -/
def entS (σ : MS) (F : Nat) (g : Int) : MS :=
  let ρ := cp5 (clS σ (26 * F) 26) (26 * F - 26) (26 * F) 5
  sI (sI (sI (sI ρ 124 F (gI σ 80 88)) 123 0 ((F : Int) + 1)) 138 5 (max (gI σ 138 5) ((F : Int) + 1))) 80 88 g
set_option maxHeartbeats 1000000 in
theorem T523 {g : Int} {E : EV} (hJ : J0 σ S) (ho : okS E t S) (hF : ¬ sF S = 4) : MM 523 [mR (some 80), mI g] σ = some (none, entS σ (sF S) g) := by
  have h1 := hJ.1
  have hF1 := ho.1
  have lt : sF S < 4 := by omega
  generalize eF : sF S = F at *
  have hl : ∀ k, k < 26 * F → aV σ k = sV S k := fun k hk => J0_v hJ (by rw [eF]; exact hk)
  have okk : ∀ k, k < 26 * F → -128 ≤ vk (aV σ k) ∧ vk (aV σ k) < 128 := fun k hk => by
    have := (ho.2.1 k (by rw [eF]; exact hk)).1
    rw [hl k hk]
    omega
  have step : ∀ n : Nat, n < 5 → RR (lkB tb523) (B523_26, [some (mR (some 80)), some (mI g), some (mI (F : Int)), some (mI ((n + 1 : Nat) : Int))], [], cp5 (clS σ (26 * F) 26) (26 * F - 26) (26 * F) n) = RR (lkB tb523) (B523_26, [some (mR (some 80)), some (mI g), some (mI (F : Int)), some (mI ((n + 1 + 1 : Nat) : Int))], [], cp5 (clS σ (26 * F) 26) (26 * F - 26) (26 * F) (n + 1)) := by
    intro n hn
    have e1 : w32 (w32 (w32 (26 * (F : Int)) - 26) + ((n + 1 : Nat) : Int)) = ((26 * F - 26 + (n + 1) : Nat) : Int) := by
      rw [w32_i (x := 26 * (F : Int)) (by omega) (by omega), w32_i (x := 26 * (F : Int) - 26) (by omega) (by omega), w32_i (by omega) (by omega)]
      omega
    have e2 : w32 (w32 (26 * (F : Int)) + ((n + 1 : Nat) : Int)) = ((26 * F + (n + 1) : Nat) : Int) := by
      rw [w32_i (x := 26 * (F : Int)) (by omega) (by omega), w32_i (by omega) (by omega)]
      omega
    have e3 : w32 (((n + 1 : Nat) : Int) + 1) = ((n + 1 + 1 : Nat) : Int) := by
      rw [w32_i (by omega) (by omega)]
      omega
    have va : aV (cp5 (clS σ (26 * F) 26) (26 * F - 26) (26 * F) n) (26 * F - 26 + (n + 1)) = aV σ (26 * F - 26 + (n + 1)) := by
      rw [c5_V (by omega), if_neg (by omega), cl_V, if_neg (by omega)]
    rw [e523_26, if_neg (by omega), e1, e2, T430 ⟨by omega, by omega⟩ ⟨by omega, by omega⟩ (by rw [Int.toNat_natCast, va]; exact okk _ (by omega))]
    simp only [Option.bind_some, Option.toList_none, List.nil_append, e523_50, e3, Int.toNat_natCast]
    rfl
  have s26 : MM 523 [mR (some 80), mI g] σ = RR (lkB tb523) (B523_26, [some (mR (some 80)), some (mI g), some (mI (F : Int)), some (mI ((0 + 1 : Nat) : Int))], [], clS σ (26 * F) 26) := by
    have n4 : ¬ (F : Int) = 4 := by omega
    simp only [M523, e523_0, e523_24, Option.getD_some, Option.bind_some, Option.toList_some, Option.toList_none, List.cons_append, List.nil_append, and_self, and_true, true_and, false_and, and_false, ite_self, not_true_eq_false, not_false_eq_true, reduceIte, Nat.reduceEqDiff, ab_I, ab_L, ab_R, ao_I, ao_L, ao_R, gL_sL, gI_sI, gR_sR, gI_sL, gI_sR, gL_sI, gL_sR, gR_sI, gR_sL, g_123, Int.reduceLT, Int.reduceLE, show (0 : Int).toNat = 0 from rfl, h1, n4, T469 (σ := σ) (show F < 1250 by omega)]
    rfl
  have s5 : RR (lkB tb523) (B523_26, [some (mR (some 80)), some (mI g), some (mI (F : Int)), some (mI ((0 + 1 : Nat) : Int))], [], clS σ (26 * F) 26) = RR (lkB tb523) (B523_26, [some (mR (some 80)), some (mI g), some (mI (F : Int)), some (mI ((4 + 1 + 1 : Nat) : Int))], [], cp5 (clS σ (26 * F) 26) (26 * F - 26) (26 * F) 5) :=
    (step 0 (by omega)).trans ((step 1 (by omega)).trans ((step 2 (by omega)).trans ((step 3 (by omega)).trans (step 4 (by omega)))))
  rw [s26, s5]
  unfold entS
  have oI : ∀ k s, ¬ (118 ≤ k ∧ k ≤ 122) → gI (cp5 (clS σ (26 * F) 26) (26 * F - 26) (26 * F) 5) k s = gI σ k s := fun k s h => by
    rw [c5_I (by omega), cl_I (by omega)]
  generalize cp5 (clS σ (26 * F) 26) (26 * F - 26) (26 * F) 5 = ρ at *
  have k1 : gI ρ 80 88 = gI σ 80 88 := oI _ _ (by omega)
  have k2 : gI ρ 123 0 = (F : Int) := (oI _ _ (by omega)).trans h1
  have k3 : gI ρ 138 5 = gI σ 138 5 := oI _ _ (by omega)
  have e6 : (5 : Int) < ((4 + 1 + 1 : Nat) : Int) := by decide
  have ew : w32 ((F : Int) + 1) = (F : Int) + 1 := w32_i (by omega) (by omega)
  have gF : 0 ≤ (F : Int) ∧ (F : Int) < 1256 := by omega
  rw [e523_26, if_pos e6]
  simp only [g_123, g_124, g_138, gF.1, gF.2, Int.reduceLT, Int.reduceLE, and_self, if_true, Int.toNat_natCast, show (0 : Int).toNat = 0 from rfl, show (5 : Int).toNat = 5 from rfl, gI_sI, Nat.reduceEqDiff, false_and, and_false, if_false, k1, k2, k3, ew, ab_I, e523_111, Option.getD_some]
  by_cases c : (F : Int) + 1 ≤ gI σ 138 5
  · rw [if_pos c, Int.max_eq_left c]
  · rw [if_neg c, Int.max_eq_right (by omega)]
theorem ent_p {g : Int} {E : EV} (hJ : J0 σ S) (ho : okS E t S) (hF : ¬ sF S = 4) (h0 : gI σ 80 90 = 0) (ht : gI σ 80 85 = t) : jpo (sI σ 138 5 (max (gI σ 138 5) ((sF S : Int) + 1))) (entS σ (sF S) g) 0 (sF S + 1, (fun k => if 26 * sF S + 1 ≤ k ∧ k ≤ 26 * sF S + 5 then sV S (k - 26) else clrF S (sF S) k), (fun f => if f = sF S then gI σ 80 88 else sB S f), sH S) g (gI σ 80 89) t := by
  have hF1 := ho.1
  have lt : sF S < 4 := by omega
  obtain ⟨j1, j2, j3, j4, j5⟩ := hJ
  generalize eF : sF S = F at *
  have oI : ∀ k s, ¬ ((118 ≤ k ∧ k ≤ 122) ∧ s < 104) → gI (cp5 (clS σ (26 * F) 26) (26 * F - 26) (26 * F) 5) k s = gI σ k s := fun k s h => by
    rw [c5_I (by omega), cl_I (by omega)]
  have oL : ∀ k s, ¬ ((112 ≤ k ∧ k ≤ 117) ∧ s < 104) → gL (cp5 (clS σ (26 * F) 26) (26 * F - 26) (26 * F) 5) k s = gL σ k s := fun k s h => by
    rw [c5_L (by omega), cl_L (by omega)]
  have oV : ∀ i, aV (cp5 (clS σ (26 * F) 26) (26 * F - 26) (26 * F) 5) i = if 26 * F + 1 ≤ i ∧ i ≤ 26 * F + 5 then aV σ (i - 26) else if 26 * F ≤ i ∧ i < 26 * F + 26 then unsV else aV σ i := fun i => by
    rw [c5_V (by omega)]
    by_cases c : 26 * F + 1 ≤ i ∧ i ≤ 26 * F + 5
    · rw [if_pos c, if_pos c, cl_V, if_neg (by omega), show i - 26 * F + (26 * F - 26) = i - 26 by omega]
    · rw [if_neg c, if_neg c, cl_V]
  have orr : (cp5 (clS σ (26 * F) 26) (26 * F - 26) (26 * F) 5).2.2 = σ.2.2 := (c5_r 5).trans (cl_r 26)
  unfold entS
  generalize cp5 (clS σ (26 * F) 26) (26 * F - 26) (26 * F) 5 = ρ at *
  refine ⟨⟨fun k s p => ?_, fun k s p => oL k s (by omega), orr⟩, ?_, fun _ => ⟨⟨?_, fun k hk => ?_, fun f f1 f2 => ?_, ?_, fun j hj => ?_⟩, ?_, ?_, ?_⟩⟩
  · rw [gI_sI, if_neg (by omega)]
    by_cases e : k = 138 ∧ s = 5
    · rw [gI_sI, if_pos e, gI_sI, if_pos e]
    · rw [gI_sI, if_neg e, gI_sI, if_neg (by omega), gI_sI, if_neg (by omega), gI_sI, if_neg e]
      exact oI k s (by omega)
  · rw [gI_sI, if_neg (by omega), gI_sI, if_neg (by omega), gI_sI, if_neg (by omega), gI_sI, if_neg (by omega), oI _ _ (by omega), h0]
  · rw [gI_sI, if_neg (by omega), gI_sI, if_neg (by omega), gI_sI, if_pos ⟨rfl, rfl⟩]
    rfl
  · have hk : k < 26 * (F + 1) := hk
    rw [aV_sI (by omega), aV_sI (by omega), aV_sI (by omega), aV_sI (by omega), show 104 * 0 + k = k by omega, oV]
    show _ = if 26 * F + 1 ≤ k ∧ k ≤ 26 * F + 5 then sV S (k - 26) else clrF S F k
    by_cases c : 26 * F + 1 ≤ k ∧ k ≤ 26 * F + 5
    · rw [if_pos c, if_pos c]
      have := j2 (k - 26) (by omega)
      rwa [show 104 * 0 + (k - 26) = k - 26 by omega] at this
    · rw [if_neg c, if_neg c]
      unfold clrF
      by_cases d : 26 * F ≤ k ∧ k < 26 * F + 26
      · rw [if_pos d, if_pos d]
      · rw [if_neg d, if_neg d]
        have := j2 k (by omega)
        rwa [show 104 * 0 + k = k by omega] at this
  · have f2 : f < F + 1 := f2
    rw [gI_sI, if_neg (by omega), gI_sI, if_neg (by omega), gI_sI, if_neg (by omega), gI_sI, show 4 * 0 + f = f by omega]
    show _ = if f = F then gI σ 80 88 else sB S f
    by_cases c : f = F
    · rw [if_pos ⟨rfl, c⟩, if_pos c]
    · rw [if_neg (fun q => c q.2), if_neg c, oI _ _ (by omega)]
      have := j3 f f1 (by omega)
      rwa [show 4 * 0 + f = f by omega] at this
  · rw [gI_sI, if_neg (by omega), gI_sI, if_neg (by omega), gI_sI, if_neg (by omega), gI_sI, if_neg (by omega), oI _ _ (by omega)]
    exact j4
  · rw [gI_sI, if_neg (by omega), gI_sI, if_neg (by omega), gI_sI, if_neg (by omega), gI_sI, if_neg (by omega), oI _ _ (by omega)]
    exact j5 j hj
  · rw [gI_sI, if_pos ⟨rfl, rfl⟩]
  · rw [gI_sI, if_neg (by omega), gI_sI, if_neg (by omega), gI_sI, if_neg (by omega), gI_sI, if_neg (by omega), oI _ _ (by omega)]
  · rw [gI_sI, if_neg (by omega), gI_sI, if_neg (by omega), gI_sI, if_neg (by omega), gI_sI, if_neg (by omega), oI _ _ (by omega), ht]
/-! arguments unset -/
def unA (σ : MS) (a : Nat) : Nat → MS
  | 0 => σ
  | n + 1 => wrV (unA σ a n) (a + (n + 1)) unsV
theorem ua_V {a n i : Nat} : aV (unA σ a n) i = if a + 1 ≤ i ∧ i ≤ a + n then unsV else aV σ i := by
  induction n with
  | zero => rw [if_neg (by omega)]; rfl
  | succ n ih =>
    show aV (wrV (unA σ a n) (a + (n + 1)) unsV) i = _
    rw [aV_wrV]
    by_cases e : i = a + (n + 1)
    · rw [if_pos e, if_pos (by omega)]
    · rw [if_neg e, ih]
      by_cases l : a + 1 ≤ i ∧ i ≤ a + n
      · rw [if_pos l, if_pos (by omega)]
      · rw [if_neg l, if_neg (by omega)]
theorem ua_I {a n k s : Nat} (h : ¬ ((118 ≤ k ∧ k ≤ 122) ∧ a < s ∧ s ≤ a + n)) : gI (unA σ a n) k s = gI σ k s := by
  induction n with
  | zero => rfl
  | succ n ih =>
    show gI (wrV (unA σ a n) (a + (n + 1)) unsV) k s = _
    by_cases e : s = a + (n + 1)
    · rw [gI_wrV_o (by omega)]
      exact ih (by omega)
    · rw [gI_wrV_s e]
      exact ih (by omega)
theorem ua_L {a n k s : Nat} (h : ¬ ((112 ≤ k ∧ k ≤ 117) ∧ a < s ∧ s ≤ a + n)) : gL (unA σ a n) k s = gL σ k s := by
  induction n with
  | zero => rfl
  | succ n ih =>
    show gL (wrV (unA σ a n) (a + (n + 1)) unsV) k s = _
    by_cases e : s = a + (n + 1)
    · rw [gL_wrV_o (by omega)]
      exact ih (by omega)
    · rw [gL_wrV_s e]
      exact ih (by omega)
theorem ua_r {a : Nat} : ∀ n : Nat, (unA σ a n).2.2 = σ.2.2
  | 0 => rfl
  | n + 1 => ua_r (a := a) n
theorem T525 (h : gI σ 123 0 = (F : Int)) (hF : 1 ≤ F ∧ F ≤ 4) : MM 525 [mR (some 80)] σ = some (none, unA σ (26 * (F - 1)) 5) := by
  have step : ∀ n : Nat, n < 5 → RR (lkB tb525) (B525_2, [some (mR (some 80)), some (mI ((n + 1 : Nat) : Int))], [], unA σ (26 * (F - 1)) n) = RR (lkB tb525) (B525_2, [some (mR (some 80)), some (mI ((n + 1 + 1 : Nat) : Int))], [], unA σ (26 * (F - 1)) (n + 1)) := by
    intro n hn
    have hg : gI (unA σ (26 * (F - 1)) n) 123 0 = (F : Int) := (ua_I (by omega)).trans h
    have t1 := T492 (σ := unA σ (26 * (F - 1)) n) (r := ((n + 1 : Nat) : Int)) (by omega) (by rw [hg]; omega)
    have ep : plc (gI (unA σ (26 * (F - 1)) n) 123 0) ((n + 1 : Nat) : Int) = 26 * (F - 1) + (n + 1) := by
      unfold plc
      rw [if_neg (by omega), hg]
      omega
    rw [ep, mkr_9 (by omega)] at t1
    have t2 := T492 (σ := unA σ (26 * (F - 1)) (n + 1)) (r := ((n + 1 : Nat) : Int)) (by omega) (by rw [ua_I (by omega), h]; omega)
    have ep2 : plc (gI (unA σ (26 * (F - 1)) (n + 1)) 123 0) ((n + 1 : Nat) : Int) = 26 * (F - 1) + (n + 1) := by
      unfold plc
      rw [if_neg (by omega), ua_I (by omega), h]
      omega
    rw [ep2, mkr_9 (by omega)] at t2
    have e3 : w32 (((n + 1 : Nat) : Int) + 1) = ((n + 1 + 1 : Nat) : Int) := by
      rw [w32_i (by omega) (by omega)]
      omega
    have ib : inB ((26 * (F - 1) + (n + 1) : Nat) : Int) := ⟨by omega, by omega⟩
    have t3 := T431 (σ := unA σ (26 * (F - 1)) n) (k := 0) (w := 0) (t := 0) ib (by omega)
    rw [Int.toNat_natCast] at t3
    have ed : wrV (unA σ (26 * (F - 1)) n) (26 * (F - 1) + (n + 1)) (mkV 0 0 0) = unA σ (26 * (F - 1)) (n + 1) := rfl
    rw [ed] at t3
    have ee : wrV (unA σ (26 * (F - 1)) (n + 1)) (26 * (F - 1) + (n + 1)) (vR unsV 0) = unA σ (26 * (F - 1)) (n + 1) := by
      show wrV (wrV (unA σ (26 * (F - 1)) n) (26 * (F - 1) + (n + 1)) unsV) (26 * (F - 1) + (n + 1)) (vR unsV 0) = _
      rw [wrV_same]
      rfl
    rw [e525_2, if_neg (by omega), t1]
    simp only [Option.bind_some, Option.toList_some, Option.toList_none, List.cons_append, List.nil_append, e525_13, t3, e525_19, t2, e525_28, Option.getD_some, g_122]
    rw [if_pos ⟨ib.1, ib.2⟩, Int.toNat_natCast, e3, p122, ua_V, if_pos (by omega)]
    rw [ee]
  have l : RR (lkB tb525) (B525_2, [some (mR (some 80)), some (mI ((4 + 1 + 1 : Nat) : Int))], [], unA σ (26 * (F - 1)) 5) = some (none, unA σ (26 * (F - 1)) 5) := by
    rw [e525_2, if_pos (by decide)]
  rw [M525, e525_0]
  exact (step 0 (by omega)).trans ((step 1 (by omega)).trans ((step 2 (by omega)).trans ((step 3 (by omega)).trans ((step 4 (by omega)).trans l))))
theorem ua_jq {a n : Nat} (h : a + n < 104) : jq (unA σ a n) σ := ⟨fun k s p => ua_I (by omega), fun k s p => ua_L (by omega), ua_r n⟩
theorem ua_J0 (hF : 1 ≤ sF S ∧ sF S ≤ 4) (j : J0 σ S) : J0 (unA σ (26 * (sF S - 1)) 5) (unsA S) := by
  obtain ⟨j1, j2, j3, j4, j5⟩ := j
  refine ⟨(ua_I (by omega)).trans j1, fun k hk => ?_, fun f f1 f2 => (ua_I (by omega)).trans (j3 f f1 f2), (ua_I (by omega)).trans j4, fun m hm => (ua_I (by omega)).trans (j5 m hm)⟩
  have hk : k < 26 * sF S := hk
  rw [show 104 * 0 + k = k by omega, ua_V]
  show _ = if 26 * (sF S - 1) + 1 ≤ k ∧ k ≤ 26 * (sF S - 1) + 5 then unsV else sV S k
  have := j2 k hk
  rw [show 104 * 0 + k = k by omega] at this
  rw [this]
end REL
