/-! ===== maps from outside: next, both sides; what each does to the rest of the machine ===== -/
section NEXT
variable {σ τ ρ υ : MS} {W V : WR} {m n p q e j i c k s z N : Nat} {x y f kd1 key value most : Int} {E : EV} {φ ψ : Nat → Nat} {L : List Int}
/-- the eldest is taken -/
theorem T60 (hm : m < 8) (hr : gI σ 35 (16 * m) = (c : Int)) (c16 : c < 16) (hN : gI σ 34 m = ((N + 1 : Nat) : Int)) (N16 : N < 16) : ∃ τ, MM 60 [mR (some 26), mI (m : Int)] σ = some (some (mI (c : Int)), τ) ∧ τ.2 = σ.2 ∧ ∀ k s, gI τ k s = if k = 34 ∧ s = m then (N : Int) else if k = 35 ∧ 16 * m ≤ s ∧ s < 16 * m + N then gI σ 35 (s + 1) else if k = 37 ∧ s = 32 * m + c then 0 else gI σ k s := by
  have w1 : w32 ((m : Int) * 16) = ((16 * m : Nat) : Int) := by
    rw [w32_i (by omega) (by omega)]
    omega
  have w2 : w32 (w32 ((m : Int) * 32) + (c : Int)) = ((32 * m + c : Nat) : Int) := by
    rw [w32_i (x := (m : Int) * 32) (by omega) (by omega), w32_i (by omega) (by omega)]
    omega
  have b35 : 0 ≤ ((16 * m : Nat) : Int) ∧ ((16 * m : Nat) : Int) < 128 := by omega
  have b37 : 0 ≤ ((32 * m + c : Nat) : Int) ∧ ((32 * m + c : Nat) : Int) < 256 := by omega
  have w0 : w8 0 = 0 := by decide
  obtain ⟨υ, hυ⟩ : ∃ υ, υ = sI σ 37 (32 * m + c) 0 := ⟨_, rfl⟩
  have gu : ∀ k s, gI υ k s = if k = 37 ∧ s = 32 * m + c then 0 else gI σ k s := fun k s => by rw [hυ, gI_sI]
  obtain ⟨τ, t, t2, t3⟩ := T55 (σ := υ) (e := 0) hm (by rw [gu, if_neg (by omega)]; exact hN) N16 (Nat.zero_le _)
  refine ⟨τ, ?_, t2.trans (by rw [hυ]; rfl), fun k s => ?_⟩
  · have t : MM 55 [mR (some 26), mI (m : Int), mI 0] υ = some (none, τ) := t
    rw [M60, e60_0, w1, if_pos (by rw [g_35]; exact b35), Int.toNat_natCast, hr, w2, if_pos (by rw [g_37]; exact b37), Int.toNat_natCast, w0, ← hυ, t]
    simp only [Option.bind_some, Option.toList_some, Option.toList_none, List.cons_append, List.nil_append]
    rw [e60_28]
  · rw [t3, Nat.add_zero]
    by_cases y1 : k = 34 ∧ s = m
    · rw [if_pos y1, if_pos y1]
    rw [if_neg y1, if_neg y1]
    by_cases y2 : k = 35 ∧ 16 * m ≤ s ∧ s < 16 * m + N
    · rw [if_pos y2, if_pos y2, gu, if_neg (by omega)]
    · rw [if_neg y2, if_neg y2, gu]
theorem T313k (C : CEO σ E) (h : noM E 3 x) : MM 313 [mR (some 0), mI x] σ = some (some (mI (-1)), σ) := by
  rw [M313, e313_0, T45k C h]
  simp only [Option.bind_some, Option.toList_some, Option.toList_none, List.cons_append, List.nil_append]
  rw [e313_9, if_pos rfl]
theorem T313l (C : CEO σ E) (hm : m < 8) (h : E.1 m = 3) (h0 : gI σ 34 m = 0) : MM 313 [mR (some 0), mI (m : Int)] σ = some (some (mI (-1)), σ) := by
  rw [M313, e313_0, T45y C hm h (by decide)]
  simp only [Option.bind_some, Option.toList_some, Option.toList_none, List.cons_append, List.nil_append]
  rw [e313_9, if_neg n10, if_pos (by rw [g_34]; omega), Int.toNat_natCast, if_neg (fun y => y h0)]
/-- next: the class -/
theorem T313 (C : CEO σ E) (hm : m < 8) (h : E.1 m = 3) (hr : gI σ 35 (16 * m) = (c : Int)) (c16 : c < 16) (hN : gI σ 34 m = ((N + 1 : Nat) : Int)) (N16 : N < 16) (hz : gI σ 36 (16 * m + c) = (z : Int)) (z64 : z ≤ 64) : ∃ υ, (υ.2 = σ.2 ∧ ∀ k s, gI υ k s = if k = 34 ∧ s = m then (N : Int) else if k = 35 ∧ 16 * m ≤ s ∧ s < 16 * m + N then gI σ 35 (s + 1) else if k = 37 ∧ s = 32 * m + c then 0 else gI σ k s) ∧ okc (MM 313 [mR (some 0), mI (m : Int)] σ) (some (mI (z : Int))) (fun τ => otC τ (blko σ 27 (17172 + 64 * (16 * m + c)) z) ∧ qC υ τ) := by
  obtain ⟨υ, t, t2, g⟩ := T60 hm hr c16 hN N16
  refine ⟨υ, ⟨t2, g⟩, ?_⟩
  obtain ⟨ω, hω⟩ : ∃ ω, ω = sI υ 2 1 0 := ⟨_, rfl⟩
  have gw : ∀ k s, ¬ (k = 2 ∧ s = 1) → gI ω k s = gI υ k s := fun k s h2 => by rw [hω, gI_sI, if_neg h2]
  have w0 : otC ω [] := by
    rw [hω]
    exact otC_z
  have t43 := T43m (σ := ω) (c := c) hm c16
  have bw : blko ω 27 (17172 + 64 * (16 * m + c)) z = blko σ 27 (17172 + 64 * (16 * m + c)) z := List.map_congr_left fun i _ => by
    rw [gw _ _ (by omega), g, if_neg (by omega), if_neg (by omega), if_neg (by omega)]
  have w1 : w32 (w32 ((m : Int) * 16) + (c : Int)) = ((16 * m + c : Nat) : Int) := ix16 hm c16
  have b36 : 0 ≤ ((16 * m + c : Nat) : Int) ∧ ((16 * m + c : Nat) : Int) < 128 := by omega
  have e36 : gI ω 36 (16 * m + c) = (z : Int) := by
    rw [gw _ _ (by omega), g, if_neg (by omega), if_neg (by omega), if_neg (by omega)]
    exact hz
  rw [M313, e313_0, T45y C hm h (by decide)]
  simp only [Option.bind_some, Option.toList_some, Option.toList_none, List.cons_append, List.nil_append]
  rw [e313_9, if_neg n10, if_pos (by rw [g_34]; omega), Int.toNat_natCast, if_pos (by omega), t]
  simp only [Option.bind_some, Option.toList_some, Option.toList_none, List.cons_append, List.nil_append]
  rw [e313_34, ← hω, t43]
  simp only [Option.bind_some, Option.toList_some, Option.toList_none, List.cons_append, List.nil_append]
  rw [e313_59, w1, if_pos (by rw [g_36]; exact b36), Int.toNat_natCast, e36]
  refine okc_b (T91 (n := z) w0 (kc_27 ω) (by omega) (by show 0 + z ≤ 8192; omega)) fun τ y => ?_
  simp only [Option.bind_some, Option.toList_some, Option.toList_none, List.cons_append, List.nil_append]
  rw [bw] at y
  have y1 : otC τ (blko σ 27 (17172 + 64 * (16 * m + c)) z) := y.1
  rw [e313_76, y1.1, blo_n]
  refine okc_s ⟨y1, qC_t ?_ y.2⟩
  rw [hω]
  exact qC_z
/-! the reference -/
def nexW (W : WR) (m N : Nat) : WR := (fun k s => if k = 107 ∧ s = m then (N : Int) else if k = 108 ∧ 16 * m ≤ s ∧ s < 16 * m + N then W.1 108 (s + 1) else if k = 109 ∧ 1024 * m ≤ s ∧ s < 1024 * m + 64 * N then W.1 109 (s + 64) else W.1 k s, W.2)
theorem L422c (hm : m < 8) (hN : N < 16) (hb : bOk ρ) : ∀ (f j : Nat) (σ : MS), j + f = 64 * N → gI σ 107 m = (N : Int) → (∀ s, 1024 * m + j ≤ s → gI σ 109 s = gI ρ 109 s) → ∃ τ, RR (lkB tb422) (B422_116, [some (mR (some 80)), some (mI (m : Int)), some (mI (j : Int))], [], σ) = some (some (mI (gI σ 80 3)), τ) ∧ τ.2 = σ.2 ∧ ∀ k s, gI τ k s = if k = 109 ∧ 1024 * m + j ≤ s ∧ s < 1024 * m + 64 * N then gI ρ 109 (s + 64) else gI σ k s := by
  intro f
  induction f with
  | zero =>
    intro j σ hj h7 _
    refine ⟨σ, ?_, rfl, fun k s => by rw [if_neg (by omega)]⟩
    rw [e422_116, if_pos (by rw [g_107]; omega), Int.toNat_natCast, h7, w32_i (by omega) (by omega), if_pos (by omega)]
  | succ f ih =>
    intro j σ hj h7 hr
    have e1 : w32 ((j : Int) + 1) = ((j + 1 : Nat) : Int) := by
      rw [w32_i (by omega) (by omega)]
      omega
    have w1 : w32 (w32 (1024 * (m : Int)) + (j : Int)) = ((1024 * m + j : Nat) : Int) := by
      rw [w32_i (x := 1024 * (m : Int)) (by omega) (by omega), w32_i (by omega) (by omega)]
      omega
    have w2 : w32 (((1024 * m + j : Nat) : Int) + 64) = ((1024 * m + j + 64 : Nat) : Int) := by
      rw [w32_i (by omega) (by omega)]
      omega
    have b1 : 0 ≤ ((1024 * m + j : Nat) : Int) ∧ ((1024 * m + j : Nat) : Int) < 8192 := by omega
    have b2 : 0 ≤ ((1024 * m + j + 64 : Nat) : Int) ∧ ((1024 * m + j + 64 : Nat) : Int) < 8192 := by omega
    have bb := hb 109 (1024 * m + j + 64) (by rw [kc_109])
    have v : w8 (gI σ 109 (1024 * m + j + 64)) = gI ρ 109 (1024 * m + j + 64) := by
      rw [hr _ (by omega)]
      exact w8_i bb.1 bb.2
    obtain ⟨τ, t1, t2, t3⟩ := ih (j + 1) (sI σ 109 (1024 * m + j) (gI ρ 109 (1024 * m + j + 64))) (by omega) (by rw [gI_sI, if_neg (by omega)]; exact h7) (fun s hs => by rw [gI_sI, if_neg (by omega)]; exact hr s (by omega))
    refine ⟨τ, ?_, t2, fun k s => ?_⟩
    · rw [e422_116, if_pos (by rw [g_107]; omega), Int.toNat_natCast, h7, w32_i (x := 64 * (N : Int)) (by omega) (by omega), if_neg (by omega), w1, w2, if_pos (by rw [g_109]; exact b2), if_pos (by rw [g_109]; exact b1), Int.toNat_natCast, Int.toNat_natCast, v, e1, t1, gI_sI, if_neg (by omega)]
    · rw [t3, gI_sI]
      by_cases y1 : k = 109 ∧ 1024 * m + (j + 1) ≤ s ∧ s < 1024 * m + 64 * N
      · rw [if_pos y1, if_pos (by omega)]
      · rw [if_neg y1]
        by_cases y2 : k = 109 ∧ s = 1024 * m + j
        · rw [if_pos y2, if_pos (by omega), y2.2]
        · rw [if_neg y2, if_neg (by omega)]
theorem L422b (hm : m < 8) (hN : N < 16) : ∀ (f j : Nat) (σ : MS), j + f = N → gI σ 107 m = (N : Int) → (∀ s, 16 * m + j ≤ s → gI σ 108 s = gI ρ 108 s) → ∃ τ, RR (lkB tb422) (B422_74, [some (mR (some 80)), some (mI (m : Int)), some (mI (j : Int))], [], σ) = RR (lkB tb422) (B422_116, [some (mR (some 80)), some (mI (m : Int)), some (mI 0)], [], τ) ∧ τ.2 = σ.2 ∧ ∀ k s, gI τ k s = if k = 108 ∧ 16 * m + j ≤ s ∧ s < 16 * m + N then gI ρ 108 (s + 1) else gI σ k s := by
  intro f
  induction f with
  | zero =>
    intro j σ hj h7 _
    refine ⟨σ, ?_, rfl, fun k s => by rw [if_neg (by omega)]⟩
    rw [e422_74, if_pos (by rw [g_107]; omega), Int.toNat_natCast, h7, if_pos (by omega)]
  | succ f ih =>
    intro j σ hj h7 hr
    have e1 : w32 ((j : Int) + 1) = ((j + 1 : Nat) : Int) := by
      rw [w32_i (by omega) (by omega)]
      omega
    have w2 : w32 (((16 * m + j : Nat) : Int) + 1) = ((16 * m + j + 1 : Nat) : Int) := by
      rw [w32_i (by omega) (by omega)]
      omega
    have b1 : 0 ≤ ((16 * m + j : Nat) : Int) ∧ ((16 * m + j : Nat) : Int) < 128 := by omega
    have b2 : 0 ≤ ((16 * m + j + 1 : Nat) : Int) ∧ ((16 * m + j + 1 : Nat) : Int) < 128 := by omega
    obtain ⟨τ, t1, t2, t3⟩ := ih (j + 1) (sI σ 108 (16 * m + j) (gI ρ 108 (16 * m + j + 1))) (by omega) (by rw [gI_sI, if_neg (by omega)]; exact h7) (fun s hs => by rw [gI_sI, if_neg (by omega)]; exact hr s (by omega))
    refine ⟨τ, ?_, t2, fun k s => ?_⟩
    · rw [e422_74, if_pos (by rw [g_107]; omega), Int.toNat_natCast, h7, if_neg (by omega), wa_16 hm (by omega), w2, if_pos (by rw [g_108]; exact b2), if_pos (by rw [g_108]; exact b1), Int.toNat_natCast, Int.toNat_natCast, hr _ (by omega), e1]
      exact t1
    · rw [t3, gI_sI]
      by_cases y1 : k = 108 ∧ 16 * m + (j + 1) ≤ s ∧ s < 16 * m + N
      · rw [if_pos y1, if_pos (by omega)]
      · rw [if_neg y1]
        by_cases y2 : k = 108 ∧ s = 16 * m + j
        · rw [if_pos y2, if_pos (by omega), y2.2]
        · rw [if_neg y2, if_neg (by omega)]
theorem L422a {v : Option MV} {P : MS → Prop} (hm : m < 8) (z64 : z ≤ 64) (hb : bOk ρ) : ∀ (f j : Nat) (σ : MS) (L : List Int), j + f = z → (∀ k s, 95 ≤ k ∧ k ≤ 109 → gI σ k s = gI ρ k s) → gI ρ 108 (16 * m) = (z : Int) → otR σ L → L.length + f ≤ 24000 → (∀ τ, etR σ L (blko ρ 109 (1024 * m + j) f) τ → okc (RR (lkB tb422) (B422_27, [some (mR (some 80)), some (mI (m : Int)), some (mI (z : Int))], [], τ)) v P) → okc (RR (lkB tb422) (B422_27, [some (mR (some 80)), some (mI (m : Int)), some (mI (j : Int))], [], σ)) v P := by
  intro f
  induction f with
  | zero =>
    intro j σ L hj hρ h8 h _ K
    have : j = z := by omega
    subst this
    exact K σ (etR_0 h)
  | succ f ih =>
    intro j σ L hj hρ h8 h hl K
    have e1 : w32 ((j : Int) + 1) = ((j + 1 : Nat) : Int) := by
      rw [w32_i (by omega) (by omega)]
      omega
    have w0 : w32 (16 * (m : Int)) = ((16 * m : Nat) : Int) := by
      rw [w32_i (by omega) (by omega)]
      omega
    have w1 : w32 (w32 (1024 * (m : Int)) + (j : Int)) = ((1024 * m + j : Nat) : Int) := by
      rw [w32_i (x := 1024 * (m : Int)) (by omega) (by omega), w32_i (by omega) (by omega)]
      omega
    have b : blko ρ 109 (1024 * m + j) (f + 1) = [gI ρ 109 (1024 * m + j)] ++ blko ρ 109 (1024 * m + (j + 1)) f := blo_a
    have b108 : 0 ≤ ((16 * m : Nat) : Int) ∧ ((16 * m : Nat) : Int) < 128 := by omega
    have b109 : 0 ≤ ((1024 * m + j : Nat) : Int) ∧ ((1024 * m + j : Nat) : Int) < 8192 := by omega
    have hl2 : (L ++ [gI ρ 109 (1024 * m + j)]).length ≤ 24000 := by
      rw [List.length_append, List.length_singleton]
      omega
    rw [e422_27, w0, if_pos (by rw [g_108]; exact b108), Int.toNat_natCast, hρ 108 _ (by omega), h8, if_neg (by omega), w1, if_pos (by rw [g_109]; exact b109), Int.toNat_natCast, hρ 109 _ (by omega)]
    refine okc_b (T390 h hl2 (hb 109 _ (by rw [kc_109]))) fun τ y => ?_
    simp only [Option.bind_some, Option.toList_some, Option.toList_none, List.cons_append, List.nil_append]
    rw [e422_56, e1]
    refine ih (j + 1) τ _ (by omega) (fun k s hk => (y.2.1 k s (by omega)).trans (hρ k s hk)) h8 y.1 (by rw [List.length_append, List.length_singleton]; omega) fun υ w => K υ ?_
    rw [b]
    exact etR_t y w
theorem T422k (C : EO σ E) (h : noM E 3 x) : MM 422 [mR (some 80), mI x] σ = some (some (mI (-1)), σ) := by
  rw [M422, e422_0, T418k C h]
  simp only [Option.bind_some, Option.toList_some, Option.toList_none, List.cons_append, List.nil_append]
  rw [e422_6, if_pos rfl]
theorem T422l (C : EO σ E) (hm : m < 8) (h : E.1 m = 3) (h0 : gI σ 107 m = 0) : MM 422 [mR (some 80), mI (m : Int)] σ = some (some (mI (-1)), σ) := by
  rw [M422, e422_0, T418y C hm h (by decide)]
  simp only [Option.bind_some, Option.toList_some, Option.toList_none, List.cons_append, List.nil_append]
  rw [e422_6, if_neg n10, if_pos (by rw [g_107]; omega), Int.toNat_natCast, if_neg (fun y => y h0)]
/-- next: the reference -/
theorem T422 (C : EO σ E) (hm : m < 8) (h : E.1 m = 3) (wl : wldR σ W) (hb : bOk σ) (hN : wg W 107 m = ((N + 1 : Nat) : Int)) (N16 : N < 16) (hz : wg W 108 (16 * m) = (z : Int)) (z64 : z ≤ 64) : okc (MM 422 [mR (some 80), mI (m : Int)] σ) (some (mI (z : Int))) (fun τ => otR τ (blko σ 109 (1024 * m) z) ∧ wldR τ (nexW W m N) ∧ τ.2 = σ.2 ∧ ∀ k s, ¬ (k = 82 ∨ k = 94 ∨ (k = 80 ∧ s = 3)) → ¬ (107 ≤ k ∧ k ≤ 109) → gI τ k s = gI σ k s) := by
  have g7 : gI σ 107 m = ((N + 1 : Nat) : Int) := (wld_g wl (by omega)).trans hN
  have g8 : gI σ 108 (16 * m) = (z : Int) := (wld_g wl (by omega)).trans hz
  have b8 : 0 ≤ (m : Int) ∧ (m : Int) < 8 := by omega
  rw [M422, e422_0, T418y C hm h (by decide)]
  simp only [Option.bind_some, Option.toList_some, Option.toList_none, List.cons_append, List.nil_append]
  rw [e422_6, if_neg n10, if_pos (by rw [g_107]; exact b8), Int.toNat_natCast, if_pos (by omega)]
  refine L422a (ρ := σ) hm z64 hb z 0 (sI σ 80 3 0) [] (by omega) (fun k s hk => by rw [gI_sI, if_neg (by omega)]) g8 otR_z (by show 0 + z ≤ 24000; omega) fun τ y => ?_
  have y1 : otR τ (blko σ 109 (1024 * m) z) := y.1
  have gt : ∀ k s, ¬ (k = 82 ∨ k = 94 ∨ (k = 80 ∧ s = 3)) → gI τ k s = gI σ k s := fun k s h2 => (y.2.1 k s h2).trans (by rw [gI_sI, if_neg (fun z => h2 (Or.inr (Or.inr z)))])
  have t2 : τ.2 = σ.2 := y.2.2
  have w0 : w32 (16 * (m : Int)) = ((16 * m : Nat) : Int) := by
    rw [w32_i (by omega) (by omega)]
    omega
  have w7 : w32 (((N + 1 : Nat) : Int) - 1) = (N : Int) := by
    rw [w32_i (by omega) (by omega)]
    omega
  have b108 : 0 ≤ ((16 * m : Nat) : Int) ∧ ((16 * m : Nat) : Int) < 128 := by omega
  obtain ⟨ω, hω⟩ : ∃ ω, ω = sI τ 107 m (N : Int) := ⟨_, rfl⟩
  have gw : ∀ k s, gI ω k s = if k = 107 ∧ s = m then (N : Int) else gI τ k s := fun k s => by rw [hω, gI_sI]
  have w107 : gI ω 107 m = (N : Int) := by rw [gw, if_pos ⟨rfl, rfl⟩]
  obtain ⟨α, a1, a2, a3⟩ := L422b (ρ := σ) hm N16 N 0 ω (by omega) w107 (fun s _ => by rw [gw, if_neg (by omega)]; exact gt 108 s (by omega))
  have ga : ∀ k s, gI α k s = if k = 108 ∧ 16 * m ≤ s ∧ s < 16 * m + N then gI σ 108 (s + 1) else gI ω k s := fun k s => by rw [a3, Nat.add_zero]
  obtain ⟨β, c1, c2, c3⟩ := L422c (ρ := σ) hm N16 hb (64 * N) 0 α (by omega) (by rw [ga, if_neg (by omega)]; exact w107) (fun s _ => by rw [ga, if_neg (by omega), gw, if_neg (by omega)]; exact gt 109 s (by omega))
  have gb : ∀ k s, gI β k s = if k = 109 ∧ 1024 * m ≤ s ∧ s < 1024 * m + 64 * N then gI σ 109 (s + 64) else if k = 108 ∧ 16 * m ≤ s ∧ s < 16 * m + N then gI σ 108 (s + 1) else if k = 107 ∧ s = m then (N : Int) else gI τ k s := fun k s => by rw [c3, Nat.add_zero, ga, gw]
  have β2 : β.2 = σ.2 := c2.trans (a2.trans ((by rw [hω]; rfl : ω.2 = τ.2).trans t2))
  rw [e422_27, w0, if_pos (by rw [g_108]; exact b108), Int.toNat_natCast, gt 108 _ (by omega), g8, if_pos (Int.le_refl _), if_pos (by rw [g_107]; exact b8), if_pos (by rw [g_107]; exact b8), Int.toNat_natCast, gt 107 m (by omega), g7, w7, ← hω]
  have a1 : RR (lkB tb422) (B422_74, [some (mR (some 80)), some (mI (m : Int)), some (mI 0)], [], ω) = _ := a1
  have c1 : RR (lkB tb422) (B422_116, [some (mR (some 80)), some (mI (m : Int)), some (mI 0)], [], α) = _ := c1
  have e3 : gI α 80 3 = (z : Int) := by rw [ga, if_neg (by omega), gw, if_neg (by omega), y1.1, blo_n]
  rw [a1, c1, e3]
  refine okc_s ⟨⟨?_, fun i hi => ?_⟩, ⟨fun k s p => ?_, ?_, ?_⟩, β2, fun k s h1 h2 => ?_⟩
  · rw [gb, if_neg (by omega), if_neg (by omega), if_neg (by omega)]
    exact y1.1
  · rw [gb, if_neg (by omega), if_neg (by omega), if_neg (by omega)]
    exact y1.2 i hi
  · have lw : wg (nexW W m N) k s = if k = 107 ∧ s = m then (N : Int) else if k = 108 ∧ 16 * m ≤ s ∧ s < 16 * m + N then wg W 108 (s + 1) else if k = 109 ∧ 1024 * m ≤ s ∧ s < 1024 * m + 64 * N then wg W 109 (s + 64) else wg W k s := rfl
    by_cases q1 : k = 109 ∧ 1024 * m ≤ s ∧ s < 1024 * m + 64 * N
    · have e : gI β k s = gI σ 109 (s + 64) := by rw [gb, if_pos q1]
      rw [e, lw, if_neg (by omega), if_neg (by omega), if_pos q1]
      exact wl.1 109 _ (by omega)
    by_cases q2 : k = 108 ∧ 16 * m ≤ s ∧ s < 16 * m + N
    · have e : gI β k s = gI σ 108 (s + 1) := by rw [gb, if_neg q1, if_pos q2]
      rw [e, lw, if_neg (by omega), if_pos q2]
      exact wl.1 108 _ (by omega)
    by_cases q3 : k = 107 ∧ s = m
    · have e : gI β k s = (N : Int) := by rw [gb, if_neg q1, if_neg q2, if_pos q3]
      rw [e, lw, if_pos q3]
    · have e : gI β k s = gI τ k s := by rw [gb, if_neg q1, if_neg q2, if_neg q3]
      rw [e, lw, if_neg q3, if_neg q2, if_neg q1, gt k s (by omega)]
      exact wl.1 k s p
  · unfold gL
    rw [β2]
    exact wl.2.1
  · unfold gL
    rw [β2]
    exact wl.2.2
  · rw [gb, if_neg (by omega), if_neg (by omega), if_neg (by omega)]
    exact gt k s h1
end NEXT
