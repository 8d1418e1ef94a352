/-! ===== the class's maps from outside: its methods ===== -/
/-- bytes of a cell that come to the OUT -/
def blko (σ : MS) (K p n : Nat) : List Int := (List.range n).map fun i => gI σ K (p + i)
section CMETH
variable {σ τ ρ A B : MS} {W V : WR} {m n p q e j i c k s z K : Nat} {x y f : Int} {E : EV} {φ ψ : Nat → Nat} {L : List Int}
theorem blo_s {σ : MS} {K p n : Nat} : blko σ K p (n + 1) = [gI σ K p] ++ blko σ K (p + 1) n := by
  have e : (List.range n).map ((fun i => gI σ K (p + i)) ∘ Nat.succ) = (List.range n).map fun i => gI σ K (p + 1 + i) := List.map_congr_left fun i _ => by
    show gI σ K (p + (i + 1)) = gI σ K (p + 1 + i)
    rw [show p + (i + 1) = p + 1 + i by omega]
  unfold blko
  rw [List.range_succ_eq_map, List.map_cons, List.map_map, e]
  rfl
theorem blo_a {σ : MS} {K A j n : Nat} : blko σ K (A + j) (n + 1) = [gI σ K (A + j)] ++ blko σ K (A + (j + 1)) n := blo_s
theorem CEO_g (h : CEO σ E) (e : ∀ k m, 29 ≤ k ∧ k ≤ 32 → gI τ k m = gI σ k m) : CEO τ E := fun m hm => by
  rw [e 31 m (by omega), e 32 m (by omega), e 29 m (by omega), e 30 m (by omega)]
  exact h m hm
theorem okm_g (o : okmC σ m) (e : ∀ k s, 30 ≤ k ∧ k ≤ 35 → gI τ k s = gI σ k s) : okmC τ m := by
  obtain ⟨o1, o2, o3, o4, o5, o6⟩ := o
  unfold okmC
  rw [e 30 _ (by omega), e 31 _ (by omega), e 32 _ (by omega), e 33 _ (by omega), e 34 _ (by omega)]
  exact ⟨o1, o2, o3, o4, o5, fun h => ⟨(o6 h).1, fun x hx => by rw [e 35 _ (by omega)]; exact (o6 h).2 x hx⟩⟩
theorem T44n (h : x < 0 ∨ 8 ≤ x) : MM 44 [mR (some 26), mI x] σ = some (some (mI 0), σ) := by
  rw [M44, e44_0]
  by_cases c : x < 0
  · rw [if_pos c, e44_23]
  · rw [if_neg c, if_pos (by omega), e44_23]
theorem T45n (h : x < 0 ∨ 8 ≤ x) : MM 45 [mR (some 26), mI x, mI y] σ = some (some (mI 0), σ) := by
  rw [M45, e45_0, T44n h]
  simp only [Option.bind_some, Option.toList_some, Option.toList_none, List.cons_append, List.nil_append]
  rw [e45_5, if_pos rfl, e45_22]
theorem T46n (h : x < 0 ∨ 8 ≤ x) : MM 46 [mR (some 26), mI x] σ = some (some (mI 0), σ) := by
  rw [M46, e46_0, T44n h]
  simp only [Option.bind_some, Option.toList_some, Option.toList_none, List.cons_append, List.nil_append]
  rw [e46_5, if_pos rfl, e46_31]
/-- bytes come to the OUT -/
theorem T91 (h : otC σ L) (hk : kd σ K = (1, z)) (hp : p + n ≤ z) (hl : L.length + n ≤ 8192) : okc (MM 91 [mR (some 2), mR (some K), mI (p : Int), mI (n : Int)] σ) none (etC σ L (blko σ K p n)) := by
  have h1 := h.1
  have a1 : ac σ 1 K 3 (p : Int) (L.length : Int) (n : Int) := by
    refine ⟨⟨by rw [hk], by rw [kc_3]⟩, ⟨by omega, by omega, by omega⟩, ?_, ?_⟩
    · rw [hk]
      show (p : Int) + (n : Int) ≤ (z : Int)
      omega
    · rw [kc_3]
      show (L.length : Int) + (n : Int) ≤ 8192
      omega
  have ln : (blko σ K p n).length = n := by
    unfold blko
    rw [List.length_map, List.length_range]
  have g : ∀ k s, gI (cpI σ K (p : Int) 3 (L.length : Int) (n : Int)) k s = if k = 3 ∧ L.length ≤ s ∧ s < L.length + n then gI σ K (s - L.length + p) else gI σ k s := fun k s => cpI_p
  have g21 : gI (cpI σ K (p : Int) 3 (L.length : Int) (n : Int)) 2 1 = (L.length : Int) := by rw [g, if_neg (by omega), h1]
  rw [M91, e91_0, h1, w32_i (x := (L.length : Int) + (n : Int)) (by omega) (by omega), if_neg (by omega), if_pos (show (Option.isSome (some K) = true ∧ Option.isSome (some 3) = true) ∧ ac σ 1 (Option.getD (some K) 0) 3 (p : Int) (L.length : Int) (n : Int) from ⟨⟨rfl, rfl⟩, a1⟩)]
  refine okc_s ⟨⟨?_, fun i hi => ?_⟩, fun k s y => ?_, rfl⟩
  · rw [gI_sI, if_pos ⟨rfl, rfl⟩]
    show w32 (gI (cpI σ K (p : Int) 3 (L.length : Int) (n : Int)) 2 1 + (n : Int)) = _
    rw [g21, w32_i (by omega) (by omega), List.length_append, ln]
    omega
  · rw [List.length_append, ln] at hi
    rw [gI_sI, if_neg (by omega)]
    show gI (cpI σ K (p : Int) 3 (L.length : Int) (n : Int)) 3 i = _
    rw [g]
    by_cases c : i < L.length
    · rw [if_neg (by omega), List.getD_eq_getElem?_getD, List.getElem?_append_left c, ← List.getD_eq_getElem?_getD]
      exact h.2 i c
    · rw [if_pos ⟨rfl, by omega, by omega⟩, List.getD_eq_getElem?_getD, List.getElem?_append_right (by omega)]
      unfold blko
      rw [List.getElem?_map, List.getElem?_range (by omega)]
      show gI σ K (i - L.length + p) = gI σ K (p + (i - L.length))
      rw [Nat.add_comm]
  · rw [gI_sI, if_neg (fun q => y (Or.inr (Or.inr q)))]
    show gI (cpI σ K (p : Int) 3 (L.length : Int) (n : Int)) k s = _
    rw [g, if_neg (fun q => y (Or.inl q.1))]
/-! put, get, remove: what isn't well -/
/-- neither told nor keyed -/
def noK (E : EV) (x : Int) : Prop := (x < 0 ∨ 8 ≤ x) ∨ ¬ (0 ≤ E.1 x.toNat ∧ E.1 x.toNat ≤ 1)
theorem T46k (C : CEO σ E) (h : noK E x) : MM 46 [mR (some 26), mI x] σ = some (some (mI 0), σ) := by
  by_cases c : x < 0 ∨ 8 ≤ x
  · exact T46n c
  · have h2 := h.resolve_left c
    obtain ⟨m, rfl⟩ : ∃ m : Nat, x = (m : Int) := ⟨x.toNat, by omega⟩
    rw [Int.toNat_natCast] at h2
    rw [T46 C (by omega), b2_no h2]
theorem T46y (C : CEO σ E) (hm : m < 8) (h : 0 ≤ E.1 m ∧ E.1 m ≤ 1) : MM 46 [mR (some 26), mI (m : Int)] σ = some (some (mI 1), σ) := by
  rw [T46 C hm, b2_yes h]
theorem T307k (C : CEO σ E) (h : noK E x) : MM 307 [mR (some 0), mI x, mI f] σ = some (some (mI (-1)), sI σ 0 1 0) := by
  rw [M307, e307_0, T294]
  simp only [Option.bind_some, Option.toList_some, Option.toList_none, List.cons_append, List.nil_append]
  rw [e307_4, T46k (CEO_g C fun k m _ => by rw [gI_sI, if_neg (by omega)]) h]
  simp only [Option.bind_some, Option.toList_some, Option.toList_none, List.cons_append, List.nil_append]
  rw [e307_13, if_pos rfl]
theorem T308k (C : CEO σ E) (h : noK E x) : MM 308 [mR (some 0), mI x] σ = some (some (mI (-1)), sI σ 0 1 0) := by
  rw [M308, e308_0, T294]
  simp only [Option.bind_some, Option.toList_some, Option.toList_none, List.cons_append, List.nil_append]
  rw [e308_4, T46k (CEO_g C fun k m _ => by rw [gI_sI, if_neg (by omega)]) h]
  simp only [Option.bind_some, Option.toList_some, Option.toList_none, List.cons_append, List.nil_append]
  rw [e308_13, if_pos rfl]
theorem T309k (C : CEO σ E) (h : noK E x) : MM 309 [mR (some 0), mI x] σ = some (some (mI (-1)), sI σ 0 1 0) := by
  rw [M309, e309_0, T294]
  simp only [Option.bind_some, Option.toList_some, Option.toList_none, List.cons_append, List.nil_append]
  rw [e309_4, T46k (CEO_g C fun k m _ => by rw [gI_sI, if_neg (by omega)]) h]
  simp only [Option.bind_some, Option.toList_some, Option.toList_none, List.cons_append, List.nil_append]
  rw [e309_13, if_pos rfl]
theorem T307l (C : CEO σ E) (hm : m < 8) (h : 0 ≤ E.1 m ∧ E.1 m ≤ 1) (o : okmC σ m) (hl : ¬ gI σ 0 1 = gI σ 31 m + gI σ 32 m) : MM 307 [mR (some 0), mI (m : Int), mI f] σ = some (some (mI (-1)), sI σ 0 1 0) := by
  obtain ⟨o1, o2, o3, _⟩ := o
  have e31 : gI (sI σ 0 1 0) 31 m = gI σ 31 m := by rw [gI_sI, if_neg (by omega)]
  have e32 : gI (sI σ 0 1 0) 32 m = gI σ 32 m := by rw [gI_sI, if_neg (by omega)]
  rw [M307, e307_0, T294]
  simp only [Option.bind_some, Option.toList_some, Option.toList_none, List.cons_append, List.nil_append]
  rw [e307_4, T46y (CEO_g C fun k m _ => by rw [gI_sI, if_neg (by omega)]) hm h]
  simp only [Option.bind_some, Option.toList_some, Option.toList_none, List.cons_append, List.nil_append]
  rw [e307_13, if_neg n10, if_pos (by rw [g_31]; omega), if_pos (by rw [g_32]; omega), Int.toNat_natCast, e31, e32, w32_i (by omega) (by omega), if_neg hl]
theorem T307 (C : CEO σ E) (hm : m < 8) (h : 0 ≤ E.1 m ∧ E.1 m ≤ 1) (o : okmC σ m) (hl : gI σ 0 1 = gI σ 31 m + gI σ 32 m) (hf : -2147483648 ≤ f ∧ f < 2147483648) : MM 307 [mR (some 0), mI (m : Int), mI f] σ = some (some (mI (updT (sI σ 0 1 0) m 0 (gI σ 31 m).toNat f).2), (updT (sI σ 0 1 0) m 0 (gI σ 31 m).toNat f).1) := by
  have oo : okmC (sI σ 0 1 0) m := okm_g o fun k s _ => by rw [gI_sI, if_neg (by omega)]
  obtain ⟨o1, o2, o3, _⟩ := o
  have e31 : gI (sI σ 0 1 0) 31 m = gI σ 31 m := by rw [gI_sI, if_neg (by omega)]
  have e32 : gI (sI σ 0 1 0) 32 m = gI σ 32 m := by rw [gI_sI, if_neg (by omega)]
  have t := T52t (σ := sI σ 0 1 0) (p := 0) (q := (gI σ 31 m).toNat) (x := iL f) hm oo (by rw [e31]; omega) (by rw [e32]; omega)
  have ff : (iL f).toInt = f := iLt (by omega) (by omega)
  have eq : (((gI σ 31 m).toNat : Nat) : Int) = gI σ 31 m := by omega
  rw [ff, eq] at t
  rw [M307, e307_0, T294]
  simp only [Option.bind_some, Option.toList_some, Option.toList_none, List.cons_append, List.nil_append]
  rw [e307_4, T46y (CEO_g C fun k m _ => by rw [gI_sI, if_neg (by omega)]) hm h]
  simp only [Option.bind_some, Option.toList_some, Option.toList_none, List.cons_append, List.nil_append]
  rw [e307_13, if_neg n10, if_pos (by rw [g_31]; omega), if_pos (by rw [g_32]; omega), Int.toNat_natCast, e31, e32, w32_i (by omega) (by omega), if_pos hl, if_pos (by rw [g_31]; omega)]
  have t : MM 52 [mR (some 26), mI (m : Int), mR (some 1), mI 0, mR (some 1), mI (gI σ 31 m), mL (iL f)] (sI σ 0 1 0) = _ := t
  rw [t]
  simp only [Option.bind_some, Option.toList_some, Option.toList_none, List.cons_append, List.nil_append]
  rw [e307_69]
theorem T308l (C : CEO σ E) (hm : m < 8) (h : 0 ≤ E.1 m ∧ E.1 m ≤ 1) (hl : ¬ gI σ 0 1 = gI σ 31 m) : MM 308 [mR (some 0), mI (m : Int)] σ = some (some (mI (-1)), sI σ 0 1 0) := by
  have e31 : gI (sI σ 0 1 0) 31 m = gI σ 31 m := by rw [gI_sI, if_neg (by omega)]
  rw [M308, e308_0, T294]
  simp only [Option.bind_some, Option.toList_some, Option.toList_none, List.cons_append, List.nil_append]
  rw [e308_4, T46y (CEO_g C fun k m _ => by rw [gI_sI, if_neg (by omega)]) hm h]
  simp only [Option.bind_some, Option.toList_some, Option.toList_none, List.cons_append, List.nil_append]
  rw [e308_13, if_neg n10, if_pos (by rw [g_31]; omega), Int.toNat_natCast, e31, if_neg hl]
theorem T309l (C : CEO σ E) (hm : m < 8) (h : 0 ≤ E.1 m ∧ E.1 m ≤ 1) (hl : ¬ gI σ 0 1 = gI σ 31 m) : MM 309 [mR (some 0), mI (m : Int)] σ = some (some (mI (-1)), sI σ 0 1 0) := by
  have e31 : gI (sI σ 0 1 0) 31 m = gI σ 31 m := by rw [gI_sI, if_neg (by omega)]
  rw [M309, e309_0, T294]
  simp only [Option.bind_some, Option.toList_some, Option.toList_none, List.cons_append, List.nil_append]
  rw [e309_4, T46y (CEO_g C fun k m _ => by rw [gI_sI, if_neg (by omega)]) hm h]
  simp only [Option.bind_some, Option.toList_some, Option.toList_none, List.cons_append, List.nil_append]
  rw [e309_13, if_neg n10, if_pos (by rw [g_31]; omega), Int.toNat_natCast, e31, if_neg hl]
/-- get: not there -/
theorem T308o (C : CEO σ E) (hm : m < 8) (h : 0 ≤ E.1 m ∧ E.1 m ≤ 1) (o : okmC σ m) (hl : gI σ 0 1 = gI σ 31 m) (hn : fenT (sI σ 0 1 0) m 0 = none) : MM 308 [mR (some 0), mI (m : Int)] σ = some (some (mI (-2)), sI σ 0 1 0) := by
  have oo : okmC (sI σ 0 1 0) m := okm_g o fun k s _ => by rw [gI_sI, if_neg (by omega)]
  obtain ⟨o1, o2, o3, _⟩ := o
  have e31 : gI (sI σ 0 1 0) 31 m = gI σ 31 m := by rw [gI_sI, if_neg (by omega)]
  have t := T49x (σ := sI σ 0 1 0) (p := 0) hm oo (by rw [e31]; omega)
  rw [hn] at t
  have t : MM 49 [mR (some 26), mI (m : Int), mR (some 1), mI 0] (sI σ 0 1 0) = some (some (mI (-1)), sI σ 0 1 0) := t
  rw [M308, e308_0, T294]
  simp only [Option.bind_some, Option.toList_some, Option.toList_none, List.cons_append, List.nil_append]
  rw [e308_4, T46y (CEO_g C fun k m _ => by rw [gI_sI, if_neg (by omega)]) hm h]
  simp only [Option.bind_some, Option.toList_some, Option.toList_none, List.cons_append, List.nil_append]
  rw [e308_13, if_neg n10, if_pos (by rw [g_31]; omega), Int.toNat_natCast, e31, if_pos hl, t]
  simp only [Option.bind_some, Option.toList_some, Option.toList_none, List.cons_append, List.nil_append]
  rw [e308_44, if_neg (by decide)]
/-- get -/
theorem T308 (C : CEO σ E) (hm : m < 8) (h : 0 ≤ E.1 m ∧ E.1 m ≤ 1) (o : okmC σ m) (hl : gI σ 0 1 = gI σ 31 m) (hz : gI σ 32 m = (z : Int)) (hn : fenT (sI σ 0 1 0) m 0 = some e) (hc : cellC σ m e = c) : okc (MM 308 [mR (some 0), mI (m : Int)] σ) (some (mI (z : Int))) (fun τ => otC τ (blko σ 27 (788 + 64 * (32 * m + c)) z) ∧ qC (sI σ 0 1 0) τ) := by
  have oo : okmC (sI σ 0 1 0) m := okm_g o fun k s _ => by rw [gI_sI, if_neg (by omega)]
  have e16 := fen_16t oo hn
  obtain ⟨o1, o2, o3, o4, o5, o6⟩ := o
  have e31 : gI (sI σ 0 1 0) 31 m = gI σ 31 m := by rw [gI_sI, if_neg (by omega)]
  have t := T49x (σ := sI σ 0 1 0) (p := 0) hm oo (by rw [e31]; omega)
  rw [hn] at t
  have t : MM 49 [mR (some 26), mI (m : Int), mR (some 1), mI 0] (sI σ 0 1 0) = some (some (mI (e : Int)), sI σ 0 1 0) := t
  obtain ⟨υ, hυ⟩ : ∃ υ, υ = sI (sI σ 0 1 0) 2 1 0 := ⟨_, rfl⟩
  have gu : ∀ k s, ¬ (k = 0 ∧ s = 1) → ¬ (k = 2 ∧ s = 1) → gI υ k s = gI σ k s := fun k s h1 h2 => by rw [hυ, gI_sI, if_neg h2, gI_sI, if_neg h1]
  have h5 : ¬ gI σ 30 m = 0 → 0 ≤ gI σ 35 (16 * m + e) ∧ gI σ 35 (16 * m + e) < 32 := fun k0 => by
    refine (o6 (by omega)).2 e ?_
    unfold fenT at hn
    have e30 : gI (sI σ 0 1 0) 30 m = gI σ 30 m := by rw [gI_sI, if_neg (by omega)]
    have e34 : gI (sI σ 0 1 0) 34 m = gI σ 34 m := by rw [gI_sI, if_neg (by omega)]
    rw [e30, if_neg k0] at hn
    have := List.mem_range.mp (List.mem_of_find?_eq_some hn)
    omega
  have cc : cellC υ m e = c := by
    rw [← hc]
    unfold cellC
    rw [gu 30 m (by omega) (by omega), gu 35 _ (by omega) (by omega)]
  have c32 : c < 32 := by
    rw [← hc]
    unfold cellC
    split
    · omega
    · rename_i k0
      have := h5 k0
      omega
  have t50 := T50 (σ := υ) hm e16 (by rw [gu 30 m (by omega) (by omega), gu 35 _ (by omega) (by omega)]; exact h5)
  rw [cc] at t50
  have u0 : otC υ [] := by
    rw [hυ]
    exact otC_z
  have bu : blko υ 27 (788 + 64 * (32 * m + c)) z = blko σ 27 (788 + 64 * (32 * m + c)) z := List.map_congr_left fun i _ => gu _ _ (by omega) (by omega)
  rw [M308, e308_0, T294]
  simp only [Option.bind_some, Option.toList_some, Option.toList_none, List.cons_append, List.nil_append]
  rw [e308_4, T46y (CEO_g C fun k m _ => by rw [gI_sI, if_neg (by omega)]) hm h]
  simp only [Option.bind_some, Option.toList_some, Option.toList_none, List.cons_append, List.nil_append]
  rw [e308_13, if_neg n10, if_pos (by rw [g_31]; omega), Int.toNat_natCast, e31, if_pos hl, t]
  simp only [Option.bind_some, Option.toList_some, Option.toList_none, List.cons_append, List.nil_append]
  rw [e308_44, if_pos (by omega), ← hυ, t50]
  simp only [Option.bind_some, Option.toList_some, Option.toList_none, List.cons_append, List.nil_append]
  rw [e308_80, if_pos (by rw [g_32]; omega), Int.toNat_natCast, gu 32 m (by omega) (by omega), hz]
  refine okc_b (T91 (n := z) u0 (kc_27 υ) (by omega) (by show 0 + z ≤ 8192; omega)) fun τ y => ?_
  simp only [Option.bind_some, Option.toList_some, Option.toList_none, List.cons_append, List.nil_append]
  rw [bu] at y
  have y1 : otC τ (blko σ 27 (788 + 64 * (32 * m + c)) z) := y.1
  have ln : (blko σ 27 (788 + 64 * (32 * m + c)) z).length = z := by
    unfold blko
    rw [List.length_map, List.length_range]
  rw [e308_92, y1.1, ln]
  refine okc_s ⟨y1, qC_t ?_ y.2⟩
  rw [hυ]
  exact qC_z
/-! entry -/
def noM (E : EV) (k x : Int) : Prop := (x < 0 ∨ 8 ≤ x) ∨ ¬ E.1 x.toNat = k
theorem T45k (C : CEO σ E) (h : noM E y x) : MM 45 [mR (some 26), mI x, mI y] σ = some (some (mI 0), σ) := by
  by_cases c : x < 0 ∨ 8 ≤ x
  · exact T45n c
  · have h2 := h.resolve_left c
    obtain ⟨m, rfl⟩ : ∃ m : Nat, x = (m : Int) := ⟨x.toNat, by omega⟩
    rw [Int.toNat_natCast] at h2
    rw [T45 C (by omega), b2_no fun z => h2 z.2]
theorem T45y (C : CEO σ E) (hm : m < 8) (h : E.1 m = y) (h0 : 0 ≤ y) : MM 45 [mR (some 26), mI (m : Int), mI y] σ = some (some (mI 1), σ) := by
  rw [T45 C hm, b2_yes ⟨by omega, h⟩]
theorem T310k (C : CEO σ E) (h : noM E 1 x) : MM 310 [mR (some 0), mI x, mI y] σ = some (some (mI (-1)), σ) := by
  rw [M310, e310_0, T45k C h]
  simp only [Option.bind_some, Option.toList_some, Option.toList_none, List.cons_append, List.nil_append]
  rw [e310_9, if_pos rfl]
theorem T310l (C : CEO σ E) (hm : m < 8) (h : E.1 m = 1) (hy : y < 0 ∨ gI σ 34 m ≤ y) : MM 310 [mR (some 0), mI (m : Int), mI y] σ = some (some (mI (-1)), σ) := by
  rw [M310, e310_0, T45y C hm h (by decide)]
  simp only [Option.bind_some, Option.toList_some, Option.toList_none, List.cons_append, List.nil_append]
  rw [e310_9, if_neg n10]
  by_cases c : y < 0
  · rw [if_pos c]
  · rw [if_neg c, if_pos (by rw [g_34]; omega), Int.toNat_natCast, if_neg (by omega)]
theorem T310 (C : CEO σ E) (hm : m < 8) (h : E.1 m = 1) (k1 : gI σ 30 m = 1) (hi : (i : Int) < gI σ 34 m) (h34 : gI σ 34 m ≤ 16) (hc : gI σ 35 (16 * m + i) = (c : Int)) (c32 : c < 32) (h31 : gI σ 31 m = (q : Int)) (q16 : q ≤ 16) (h32 : gI σ 32 m = (z : Int)) (z64 : z ≤ 64) : okc (MM 310 [mR (some 0), mI (m : Int), mI (i : Int)] σ) (some (mI ((q + z : Nat) : Int))) (fun τ => otC τ (blko σ 28 (16 * (32 * m + c)) q ++ blko σ 27 (788 + 64 * (32 * m + c)) z) ∧ qC σ τ) := by
  have i16 : i < 16 := by omega
  have b35 : 0 ≤ ((16 * m + i : Nat) : Int) ∧ ((16 * m + i : Nat) : Int) < 128 := by omega
  have b34 : 0 ≤ (m : Int) ∧ (m : Int) < 8 := by omega
  obtain ⟨υ, hυ⟩ : ∃ υ, υ = sI σ 2 1 0 := ⟨_, rfl⟩
  have gu : ∀ k s, ¬ (k = 2 ∧ s = 1) → gI υ k s = gI σ k s := fun k s h2 => by rw [hυ, gI_sI, if_neg h2]
  have u0 : otC υ [] := by
    rw [hυ]
    exact otC_z
  have t42 := T42m (σ := υ) (c := c) hm c32
  have bu : blko υ 28 (16 * (32 * m + c)) q = blko σ 28 (16 * (32 * m + c)) q := List.map_congr_left fun i _ => gu _ _ (by omega)
  have l1 : (blko σ 28 (16 * (32 * m + c)) q).length = q := by
    unfold blko
    rw [List.length_map, List.length_range]
  have l2 : (blko σ 27 (788 + 64 * (32 * m + c)) z).length = z := by
    unfold blko
    rw [List.length_map, List.length_range]
  rw [M310, e310_0, T45y C hm h (by decide)]
  simp only [Option.bind_some, Option.toList_some, Option.toList_none, List.cons_append, List.nil_append]
  rw [e310_9, if_neg n10, if_neg (by omega), if_pos (by rw [g_34]; exact b34), Int.toNat_natCast, if_pos hi, ix16 hm i16, if_pos (by rw [g_35]; exact b35), Int.toNat_natCast, hc, ← hυ, t42]
  simp only [Option.bind_some, Option.toList_some, Option.toList_none, List.cons_append, List.nil_append]
  rw [e310_70, if_pos (by rw [g_31]; exact b34), Int.toNat_natCast, gu 31 m (by omega), h31]
  refine okc_b (T91 (n := q) u0 (kc_28 υ) (by omega) (by show 0 + q ≤ 8192; omega)) fun τ y => ?_
  simp only [Option.bind_some, Option.toList_some, Option.toList_none, List.cons_append, List.nil_append]
  rw [bu] at y
  have y1 : otC τ (blko σ 28 (16 * (32 * m + c)) q) := y.1
  have gt : ∀ k s, ¬ (k = 3 ∨ k = 4 ∨ (k = 2 ∧ s = 1)) → gI τ k s = gI σ k s := fun k s h2 => (y.2.1 k s h2).trans (gu k s (fun h => h2 (Or.inr (Or.inr h))))
  have e30 : ¬ gI τ 30 m = 0 := by
    rw [gt 30 m (by omega)]
    omega
  have cc : cellC τ m i = c := by
    unfold cellC
    rw [if_neg e30, gt 35 _ (by omega), hc, Int.toNat_natCast]
  have t50 := T50 (σ := τ) hm i16 (fun _ => by rw [gt 35 _ (by omega), hc]; omega)
  rw [cc] at t50
  have bt : blko τ 27 (788 + 64 * (32 * m + c)) z = blko σ 27 (788 + 64 * (32 * m + c)) z := List.map_congr_left fun i _ => gt _ _ (by omega)
  rw [e310_82, t50]
  simp only [Option.bind_some, Option.toList_some, Option.toList_none, List.cons_append, List.nil_append]
  rw [e310_102, if_pos (by rw [g_32]; exact b34), Int.toNat_natCast, gt 32 m (by omega), h32]
  refine okc_b (T91 (n := z) y1 (kc_27 τ) (by omega) (by rw [l1]; omega)) fun ρ y' => ?_
  simp only [Option.bind_some, Option.toList_some, Option.toList_none, List.cons_append, List.nil_append]
  rw [bt] at y'
  rw [e310_114, y'.1.1, List.length_append, l1, l2]
  refine okc_s ⟨y'.1, qC_t (qC_t ?_ y.2) y'.2⟩
  rw [hυ]
  exact qC_z
/-! size -/
theorem T311n (C : CEO σ E) (h : (x < 0 ∨ 8 ≤ x) ∨ E.1 x.toNat < 0) : MM 311 [mR (some 0), mI x] σ = some (some (mI (-1)), σ) := by
  have t : MM 44 [mR (some 26), mI x] σ = some (some (mI 0), σ) := by
    by_cases c : x < 0 ∨ 8 ≤ x
    · exact T44n c
    · have h2 := h.resolve_left c
      obtain ⟨m, rfl⟩ : ∃ m : Nat, x = (m : Int) := ⟨x.toNat, by omega⟩
      rw [Int.toNat_natCast] at h2
      rw [T44 C (by omega), b2_no (by omega)]
  rw [M311, e311_0, t]
  simp only [Option.bind_some, Option.toList_some, Option.toList_none, List.cons_append, List.nil_append]
  rw [e311_8, if_pos rfl]
theorem T311 (C : CEO σ E) (hm : m < 8) (h : 0 ≤ E.1 m) : MM 311 [mR (some 0), mI (m : Int)] σ = some (some (mI (gI σ 34 m)), σ) := by
  rw [M311, e311_0, T44 C hm, b2_yes h]
  simp only [Option.bind_some, Option.toList_some, Option.toList_none, List.cons_append, List.nil_append]
  rw [e311_8, if_neg n10, if_pos (by rw [g_34]; omega), Int.toNat_natCast]
/-! link -/
theorem T57 {S : Int} (hm : m < 8) (hi : i < 16) (b34 : 0 ≤ gI σ 34 m ∧ gI σ 34 m ≤ 100) : MM 57 [mR (some 26), mI (m : Int), mI (i : Int), mI S] σ = some (none, sI (sI σ 34 m (gI σ 34 m + ((if S = -1 then 0 else 1) - (if gI σ 35 (16 * m + i) = -1 then 0 else 1)))) 35 (16 * m + i) S) := by
  have w1 : w32 (w32 ((m : Int) * 16) + (i : Int)) = ((16 * m + i : Nat) : Int) := by
    rw [w32_i (x := (m : Int) * 16) (by omega) (by omega), w32_i (by omega) (by omega)]
    omega
  have b35 : 0 ≤ ((16 * m + i : Nat) : Int) ∧ ((16 * m + i : Nat) : Int) < 128 := by omega
  have b8 : 0 ≤ (m : Int) ∧ (m : Int) < 8 := by omega
  have h1 : RR (lkB tb57) (B57_0, [some (mR (some 26)), some (mI (m : Int)), some (mI (i : Int)), some (mI S), none], [], σ) = RR (lkB tb57) (B57_25, [some (mR (some 26)), some (mI (m : Int)), some (mI (i : Int)), some (mI S), some (mI ((16 * m + i : Nat) : Int))], [mI (if S = -1 then 0 else 1), mI (gI σ 34 m), mI (m : Int), mR (some 34)], σ) := by
    rw [e57_0, if_pos (by rw [g_34]; exact b8), Int.toNat_natCast, w1]
    by_cases c : S = -1
    · rw [if_neg (fun z => z c), if_pos c]
    · rw [if_pos c, if_neg c]
  have h2 : RR (lkB tb57) (B57_25, [some (mR (some 26)), some (mI (m : Int)), some (mI (i : Int)), some (mI S), some (mI ((16 * m + i : Nat) : Int))], [mI (if S = -1 then 0 else 1), mI (gI σ 34 m), mI (m : Int), mR (some 34)], σ) = RR (lkB tb57) (B57_41, [some (mR (some 26)), some (mI (m : Int)), some (mI (i : Int)), some (mI S), some (mI ((16 * m + i : Nat) : Int))], [mI (if gI σ 35 (16 * m + i) = -1 then 0 else 1), mI (if S = -1 then 0 else 1), mI (gI σ 34 m), mI (m : Int), mR (some 34)], σ) := by
    rw [e57_25, if_pos (by rw [g_35]; exact b35), Int.toNat_natCast]
    by_cases c : gI σ 35 (16 * m + i) = -1
    · rw [if_neg (fun z => z c), if_pos c]
    · rw [if_pos c, if_neg c]
  have bs : 0 ≤ (if S = -1 then (0 : Int) else 1) ∧ (if S = -1 then (0 : Int) else 1) ≤ 1 := by split <;> decide
  have bo : 0 ≤ (if gI σ 35 (16 * m + i) = -1 then (0 : Int) else 1) ∧ (if gI σ 35 (16 * m + i) = -1 then (0 : Int) else 1) ≤ 1 := by split <;> decide
  generalize (if S = -1 then (0 : Int) else 1) = u at h1 h2 bs ⊢
  generalize (if gI σ 35 (16 * m + i) = -1 then (0 : Int) else 1) = v at h2 bo ⊢
  rw [M57, h1, h2, e57_41, w32_i (x := u - v) (by omega) (by omega), w32_i (by omega) (by omega), if_pos (show Option.isSome (some 34) = true ∧ ab σ 3 (Option.getD (some 34) 0) (m : Int) from (g_34 (σ := σ) (i := (m : Int))) ▸ b8), if_pos (by rw [g_35]; exact b35), Int.toNat_natCast, Int.toNat_natCast]
  rfl
theorem T312k (C : CEO σ E) (h : noM E 2 x) : MM 312 [mR (some 0), mI x, mI y, mI f] σ = some (some (mI 0), σ) := by
  rw [M312, e312_0, T45k C h]
  simp only [Option.bind_some, Option.toList_some, Option.toList_none, List.cons_append, List.nil_append]
  rw [e312_9, if_pos rfl]
theorem T312l (C : CEO σ E) (hm : m < 8) (h : E.1 m = 2) (hy : (y < 0 ∨ gI σ 33 m ≤ y) ∨ (f < -1 ∨ 8 ≤ f)) : MM 312 [mR (some 0), mI (m : Int), mI y, mI f] σ = some (some (mI 0), σ) := by
  rw [M312, e312_0, T45y C hm h (by decide)]
  simp only [Option.bind_some, Option.toList_some, Option.toList_none, List.cons_append, List.nil_append]
  rw [e312_9, if_neg n10]
  by_cases c : y < 0
  · rw [if_pos c]
  · rw [if_neg c, if_pos (by rw [g_33]; omega), Int.toNat_natCast]
    by_cases d : y < gI σ 33 m
    · rw [if_pos d, if_neg (by omega), T205n (by omega)]
      simp only [Option.bind_some, Option.toList_some, Option.toList_none, List.cons_append, List.nil_append]
      rw [e312_40, if_neg (fun z => z rfl)]
    · rw [if_neg d]
theorem T312 (C : CEO σ E) (hm : m < 8) (h : E.1 m = 2) (hi : (i : Int) < gI σ 33 m) (h33 : gI σ 33 m ≤ 16) (b34 : 0 ≤ gI σ 34 m ∧ gI σ 34 m ≤ 100) (hf : -1 ≤ f ∧ f < 8) : MM 312 [mR (some 0), mI (m : Int), mI (i : Int), mI f] σ = some (some (mI 1), sI (sI σ 34 m (gI σ 34 m + ((if f = -1 then 0 else 1) - (if gI σ 35 (16 * m + i) = -1 then 0 else 1)))) 35 (16 * m + i) f) := by
  have e45 : RR (lkB tb312) (B312_45, [some (mR (some 0)), some (mI (m : Int)), some (mI (i : Int)), some (mI f)], [], σ) = some (some (mI 1), sI (sI σ 34 m (gI σ 34 m + ((if f = -1 then 0 else 1) - (if gI σ 35 (16 * m + i) = -1 then 0 else 1)))) 35 (16 * m + i) f) := by
    rw [e312_45, T57 hm (by omega) b34]
    simp only [Option.bind_some, Option.toList_some, Option.toList_none, List.cons_append, List.nil_append]
    rw [e312_55]
  rw [M312, e312_0, T45y C hm h (by decide)]
  simp only [Option.bind_some, Option.toList_some, Option.toList_none, List.cons_append, List.nil_append]
  rw [e312_9, if_neg n10, if_neg (by omega), if_pos (by rw [g_33]; omega), Int.toNat_natCast, if_pos hi]
  by_cases c : f = -1
  · rw [if_pos c]
    exact e45
  · obtain ⟨S, rfl⟩ : ∃ S : Nat, f = (S : Int) := ⟨f.toNat, by omega⟩
    rw [if_neg c, T205 (by omega)]
    simp only [Option.bind_some, Option.toList_some, Option.toList_none, List.cons_append, List.nil_append]
    rw [e312_40, if_pos n10]
    exact e45
end CMETH
