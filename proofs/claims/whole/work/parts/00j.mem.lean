/-! ===== memory: what the judge says is so ===== -/
theorem small_i {a : Int} {u : B64} (h1 : -1000000 ≤ a) (h2 : a ≤ 1000000) (hu : u.toNat ≤ 65535) : (BitVec.ofInt 64 a + u).toInt = a + u.toNat := by
  rw [BitVec.toInt_add, BitVec.toInt_ofInt]
  have e : u.toInt = u.toNat := by rw [toInt_c, if_pos (by omega)]
  rw [e, Int.bmod_def, Int.bmod_def]
  omega
theorem small_n {a : Int} {u : B64} (h1 : -1000000 ≤ a) (h2 : a ≤ 1000000) (hu : u.toNat ≤ 65535) (h0 : 0 ≤ a + u.toNat) : ((BitVec.ofInt 64 a + u).toNat : Int) = a + u.toNat := by
  have e := small_i h1 h2 hu
  rw [toInt_c] at e
  have := nat_rng (BitVec.ofInt 64 a + u)
  split at e <;> omega
theorem ofI_n {a : Int} (h1 : 0 ≤ a) (h2 : a ≤ 1000000) : ((BitVec.ofInt 64 a).toNat : Int) = a := by
  rw [BitVec.toNat_ofInt]
  omega
theorem leN_lt : ∀ l : List B64, l.length ≤ 8 → (∀ y ∈ l, y.toNat < 256) → (leN l).toNat < 2 ^ (8 * l.length) := by
  intro l
  induction l with
  | nil => intro _ _; exact Nat.one_pos
  | cons b t ih =>
    intro hl hy
    have hl : t.length + 1 ≤ 8 := hl
    have i1 := ih (by omega) (fun y h => hy y (List.mem_cons_of_mem _ h))
    have hb := hy b (List.mem_cons_self ..)
    show ((leN t <<< 8) ||| b).toNat < 2 ^ (8 * (t.length + 1))
    rw [BitVec.toNat_or]
    have e : 2 ^ (8 * (t.length + 1)) = 2 ^ (8 * t.length) * 256 := by rw [show 8 * (t.length + 1) = 8 * t.length + 8 by omega, Nat.pow_add]
    have a1 : (leN t <<< 8).toNat ≤ (leN t).toNat * 256 := by
      rw [BitVec.toNat_shiftLeft, Nat.shiftLeft_eq]
      exact Nat.mod_le _ _
    refine Nat.or_lt_two_pow ?_ ?_
    · rw [e]; omega
    · refine Nat.lt_of_lt_of_le hb ?_
      rw [e]
      have := Nat.one_le_two_pow (n := 8 * t.length)
      omega
section MM1
variable {W : Type} {B : WB W} {E : EV} {th : Int → Nat} {tp : Int → B64} {S : ST} {c : TC W} {t : Int}
theorem rdL_some {o : Nat} : ∀ (n b : Nat), (∀ i, i < n → ∃ y, rdB B c o (b + i) = some y ∧ y.toNat < 256) → ∃ l, rdL B c o b n = some l ∧ l.length = n ∧ ∀ y ∈ l, y.toNat < 256 := by
  intro n
  induction n with
  | zero => intro b _; exact ⟨[], rfl, rfl, fun y h => by cases h⟩
  | succ n ih =>
    intro b h
    obtain ⟨y, e, hy⟩ := h 0 (by omega)
    obtain ⟨l, e2, e3, e4⟩ := ih (b + 1) (fun i hi => by
      have := h (i + 1) (by omega)
      rwa [show b + (i + 1) = b + 1 + i by omega] at this)
    refine ⟨y :: l, ?_, by show l.length + 1 = n + 1; omega, fun z hz => ?_⟩
    · unfold rdL
      have e : rdB B c o b = some y := e
      rw [e, e2]
    · rcases List.mem_cons.mp hz with h | h
      · rw [h]; exact hy
      · exact e4 z h
theorem rdB_stk {f b : Nat} (hf : f < 4) (hb : b < 128) (h : (cS c f b).1 = 1) : rdB B c (2 + f) b = some (cS c f b).2.2 := by
  unfold rdB
  rw [if_pos (by omega), show 2 + f - 2 = f by omega, if_pos ⟨hb, h⟩]
theorem rdL_stk {f : Nat} (hf : f < 4) : ∀ (n b : Nat), b + n ≤ 128 → (∀ i, i < n → (cS c f (b + i)).1 = 1) → rdL B c (2 + f) b n = some ((List.range n).map fun i => (cS c f (b + i)).2.2) := by
  intro n
  induction n with
  | zero => intro b _ _; rfl
  | succ n ih =>
    intro b hb h
    unfold rdL
    have h0 : (cS c f b).1 = 1 := h 0 (by omega)
    rw [rdB_stk hf (by omega) h0, ih (b + 1) (by omega) (fun i hi => by
      have := h (i + 1) (by omega)
      rwa [show b + (i + 1) = b + 1 + i by omega] at this)]
    rw [List.range_succ_eq_map, List.map_cons, List.map_map]
    have e : (fun i => (cS c f (b + 1 + i)).2.2) = ((fun i => (cS c f (b + i)).2.2) ∘ Nat.succ) := by
      funext i
      show _ = (cS c f (b + (i + 1))).2.2
      rw [show b + (i + 1) = b + 1 + i by omega]
    rw [e]
    rfl
/-- where n bytes are -/
def locG (B : WB W) (S : ST) (c : TC W) (v : VL) (o x n : Nat) : Prop :=
  (vk v = 3 ∧ (o = 2 + (vw v).toNat ∧ (vw v).toNat < sF S) ∧ x + n ≤ 128)
  ∨ (¬ vk v = 3 ∧ (((16 ≤ o ∧ o ≤ 271) ∧ x + n ≤ 64) ∨ (o = 280 ∧ x + n ≤ B.1 (cW c)) ∨ ((300 ≤ o ∧ o ≤ 363) ∧ x + n ≤ 64 ∧ B.2.2.2.1 (cW c) (o - 300) = true)))
theorem room_g (h : gS B E th tp S c) (ho : okS E t S) {v : VL} {s : SV} {b : Int} {n : Nat} (hv : mvs v) (gv : gV E (B.1 (cW c)) (B.2.2.2.2 (cW c)) (sH S) th tp v s) (ov : okV E (sF S - 1) t v) (hb : -32768 ≤ b ∧ b ≤ 32768) (hn : 1 ≤ n ∧ n ≤ 128) (hr : room E v b n) :
    locG B S c v s.1 (offN s.2 b).toNat n ∧ (vk v = 3 → ((offN s.2 b).toNat : Int) = vo v + b + 128) := by
  have hof := ov.2.1 hv
  rcases hv with k | k | k | k
  · have hr : -128 ≤ vo v + b ∧ vo v + b ≤ -n := by
      have := hr; unfold room at this; rwa [if_pos k] at this
    have e := gV_3 gv k
    have o := ov.2.2.1 k
    have e2 : ((offN s.2 b).toNat : Int) = vo v + b + 128 := by
      rw [e]
      show ((BitVec.ofInt 64 (128 + vo v) + BitVec.ofInt 64 b).toNat : Int) = _
      rw [← BitVec.ofInt_add, ofI_n (by omega) (by omega)]
      omega
    refine ⟨Or.inl ⟨k, ⟨?_, ?_⟩, ?_⟩, fun _ => e2⟩
    · rw [e]
      show (2 + vw v).toNat = 2 + (vw v).toNat
      omega
    · have := ho.1
      omega
    · omega
  · have hr : 0 ≤ (BitVec.ofInt 64 (vo v + b) + jA (vn v)).toInt ∧ (BitVec.ofInt 64 (vo v + b) + jB (vn v) + BitVec.ofInt 64 n).toInt ≤ E.2.2 (vw v).toNat := by
      have := hr; unfold room at this; rwa [if_neg (by omega), if_neg (by omega), if_pos k] at this
    obtain ⟨j, p, j1, e, _, _, p1, p2, _⟩ := gV_5 gv k
    have o := ov.2.2.2.2.1 (Or.inl k)
    have u := ov.2.2.2.2.2.1 (Or.inl k)
    rw [add_r, ← BitVec.ofInt_add, small_i (by omega) (by omega) (by omega), small_i (by omega) (by omega) (by omega)] at hr
    have e2 : ((offN s.2 b).toNat : Int) = vo v + b + p.toNat := by
      rw [e]
      show ((BitVec.ofInt 64 (vo v) + p + BitVec.ofInt 64 b).toNat : Int) = _
      rw [add_r, ← BitVec.ofInt_add, small_n (by omega) (by omega) (by omega) (by omega)]
    refine ⟨Or.inr ⟨by omega, Or.inl ⟨?_, ?_⟩⟩, fun q => by omega⟩
    · rw [e]
      show 16 ≤ 16 + 32 * (vw v).toNat + j ∧ 16 + 32 * (vw v).toNat + j ≤ 271
      omega
    · omega
  · have hr : 0 ≤ vo v + b ∧ vo v + b + n ≤ vr v := by
      have := hr; unfold room at this; rwa [if_neg (by omega), if_pos k] at this
    obtain ⟨e, ⟨_, _, p1, p2, _⟩, rc⟩ := gV_7 gv k
    have u := ov.2.2.2.2.2.1 (Or.inr (Or.inl k))
    have rr := ov.2.2.2.2.2.2.2.2.2 k
    have e2 : ((offN s.2 b).toNat : Int) = vo v + b + (tp (vt v)).toNat := by
      rw [e]
      show ((BitVec.ofInt 64 (vo v) + tp (vt v) + BitVec.ofInt 64 b).toNat : Int) = _
      rw [add_r, ← BitVec.ofInt_add, small_n (by omega) (by omega) (by omega) (by omega)]
    refine ⟨?_, fun q => by omega⟩
    refine Or.inr ⟨by omega, Or.inr (Or.inl ⟨by rw [e], ?_⟩)⟩
    omega
  · have hr : 0 ≤ (BitVec.ofInt 64 (vo v + b) + jA (vn v)).toInt ∧ (BitVec.ofInt 64 (vo v + b) + jB (vn v) + BitVec.ofInt 64 n).toInt ≤ vw v := by
      have := hr; unfold room at this; rwa [if_neg (by omega), if_neg (by omega), if_neg (by omega)] at this
    obtain ⟨i, p, ⟨i1, i2, i3⟩, e, ⟨_, _, p1, p2, _⟩, _⟩ := gV_9 gv k
    have o := ov.2.2.2.2.2.2.2.2.1 (Or.inl k)
    have u := ov.2.2.2.2.2.1 (Or.inr (Or.inr k))
    rw [add_r, ← BitVec.ofInt_add, small_i (by omega) (by omega) (by omega), small_i (by omega) (by omega) (by omega)] at hr
    have e2 : ((offN s.2 b).toNat : Int) = vo v + b + p.toNat := by
      rw [e]
      show ((BitVec.ofInt 64 (vo v) + p + BitVec.ofInt 64 b).toNat : Int) = _
      rw [add_r, ← BitVec.ofInt_add, small_n (by omega) (by omega) (by omega) (by omega)]
    refine ⟨Or.inr ⟨by omega, Or.inr (Or.inr ⟨?_, ?_, ?_⟩)⟩, fun q => by omega⟩
    · rw [e]
      show 300 ≤ 300 + i ∧ 300 + i ≤ 363
      omega
    · omega
    · rw [e]
      show B.2.2.2.1 (cW c) (300 + i - 300) = true
      rw [show 300 + i - 300 = i by omega]
      exact (h.2.2.2.2.1 i i1).mpr ⟨_, i3, i2⟩
theorem rdB_wld (hB : okB B) {v : VL} {o x n i : Nat} (k : ¬ vk v = 3) (h : locG B S c v o x n) (hi : i < n) : ∃ y, rdB B c o (x + i) = some y ∧ y.toNat < 256 := by
  rcases h with h | ⟨_, h⟩
  · exact absurd h.1 k
  · refine ⟨B.2.1 (cW c) o (x + i), ?_, hB.2.1 _ _ _⟩
    unfold rdB
    rcases h with h | h | h
    · rw [if_neg (by omega), if_pos h.1, if_pos (by omega)]
    · rw [if_neg (by omega), if_neg (by omega), if_pos h.1, if_pos (by omega)]
    · rw [if_neg (by omega), if_neg (by omega), if_neg (by omega), if_pos h.1, if_pos ⟨by omega, h.2.2⟩]
/-- bytes that the judge calls set -/
theorem set_g (h : gS B E th tp S c) {f b : Nat} (hf : f < sF S) (hb : b < 128) (hs : setB S f b) : (cS c f b).1 = 1 := by
  have q := h.2.2.1 f (b / 8) hf (by omega)
  have e : 8 * (b / 8) + b % 8 = b := by omega
  unfold setB at hs
  split at hs
  · rename_i k
    have := q.1 k (b % 8) (by omega) hs
    rwa [show (fun i => cS c f (8 * (b / 8) + i)) (b % 8) = cS c f (8 * (b / 8) + b % 8) from rfl, e] at this
  · rename_i k
    obtain ⟨s, s1, s2⟩ := q.2 k
    have z := (gV_1 s1 hs).1
    rcases s2 with s2 | s2
    · have := s2.2.1 (b % 8) (by omega)
      rwa [show (fun i => cS c f (8 * (b / 8) + i)) (b % 8) = cS c f (8 * (b / 8) + b % 8) from rfl, e] at this
    · exfalso; omega
theorem areS_t {f b n : Nat} (h : areS S f b n = true) {i : Nat} (hi : i < n) : setB S f (b + i) := by
  unfold areS at h
  have := List.all_eq_true.mp h i (List.mem_range.mpr hi)
  exact of_decide_eq_true this
theorem plcF_0 {v : VL} (h : plcF v = 0) : mvs v := by
  unfold plcF at h
  split at h
  · omega
  · split at h
    · omega
    · rename_i q; exact Decidable.not_not.mp q
theorem bytN_r (w : B64) : (bytN w = 1 ∨ bytN w = 2 ∨ bytN w = 4 ∨ bytN w = 8) ∧ (bytN w = 8 → fB w = 3) := by
  have := fld_rng w
  have e : fB w = fOp w / 8 % 4 := rfl
  unfold bytN
  split
  · exact ⟨by omega, fun q => by omega⟩
  · split
    · exact ⟨by omega, fun q => by omega⟩
    · split
      · exact ⟨by omega, fun q => by omega⟩
      · exact ⟨by omega, fun _ => by omega⟩
theorem okV_7 {g : Nat} (h : 0 ≤ t) : okV E g t (mkV 7 0 0) := by
  have k1 : vk (mkV 7 0 0) = 7 := rfl
  refine ⟨by omega, fun _ => by show (-4096 : Int) ≤ 0 ∧ (0 : Int) ≤ 4096; omega, ?_, ?_, ?_, fun _ => by show (0#64).toNat ≤ 65535; decide, ?_, fun _ => by show (0 : Int) ≤ 0 ∧ (0 : Int) ≤ t; omega, ?_, fun _ => by show (0 : Int) ≤ 4097; omega⟩
  all_goals (intro e; exfalso; omega)
theorem okV_8 {g : Nat} : okV E g t (mkV 8 0 0) := by
  have k1 : vk (mkV 8 0 0) = 8 := rfl
  refine ⟨by omega, ?_, ?_, ?_, ?_, ?_, ?_, ?_, ?_, ?_⟩
  all_goals (intro e; exfalso; omega)
theorem no_rec {k w x : Int} (h : ¬ k = 9 ∧ ¬ k = 10) : vk (mkV k w x) = 9 ∨ vk (mkV k w x) = 10 → ∃ j, j < 26 * sF S ∧ vk (sV S j) = vk (mkV k w x) ∧ vt (sV S j) = vt (mkV k w x) := by
  have k1 : vk (mkV k w x) = k := rfl
  intro e
  exfalso
  omega
theorem regG_u (h : gS B E th tp S c) {v : VL} {s : SV} (gv : gV E (B.1 (cW c)) (B.2.2.2.2 (cW c)) (sH S) th tp v s) (ov : okV E (sF S - 1) t v) (hr : vk v = 9 ∨ vk v = 10 → ∃ k, k < 26 * sF S ∧ vk (sV S k) = vk v ∧ vt (sV S k) = vt v) : regG B E th tp S c t v t s := ⟨tp, Int.le_refl _, h, gv, ov, hr⟩
theorem lod_g {H : WH W} (hB : okB B) (hH : ∀ w i, (H.1 w i).toNat < 4294967296) (h : gS B E th tp S c) (ho : okS E t S) {w : B64} (hw : (fM w = 96 ∨ fM w = 128 ∧ ¬ fB w = 3) ∧ fS w ≤ 10) (hl : fL w = 1) (hf : (lodV E S w).1 = 0) : ∃ s, ldT B H c w = some s ∧ regG B E th tp S c t (lodV E S w).2 t s := by
  have f := fld_rng w
  have gx := rV_g h ho (r := sRr w) (sR_10 hw.2)
  have ox := rV_ok ho (r := sRr w) (sR_10 hw.2)
  have hs : sF S - 1 < 4 := by have := ho.1; omega
  have t0 : 0 ≤ t := ho.2.2.2.2.2.2
  obtain ⟨bn, b8⟩ := bytN_r w
  unfold lodV at hf ⊢
  split at hf
  · exfalso; have hf : (3 : Int) = 0 := hf; omega
  · rename_i k0
    rw [if_neg k0]
    unfold ldT
    split at hf
    · rename_i k2
      rw [if_pos k2]
      have e := gV_2 gx k2
      rw [if_pos (show (rdR c (sRr w)).1 = 1 by rw [e])]
      split at hf
      · exfalso; have hf : (9 : Int) = 0 := hf; omega
      · rename_i q
        rw [if_neg q]
        have q : fOp w = 97 ∧ 0 ≤ fO w ∧ fO w ≤ 16 ∧ fO w % 4 = 0 := Decidable.not_not.mp q
        have m96 : fM w = 96 := by unfold fM; omega
        have b4 : bytN w = 4 := by unfold bytN fB; rw [if_pos (by omega)]
        rw [if_neg (by omega)]
        by_cases o4 : fO w ≤ 4
        · rw [if_pos o4]
          by_cases o0 : fO w = 0
          · rw [if_pos o0, if_pos o0]
            refine ⟨_, rfl, regG_u (v := mkV 7 0 0) h (mk_7 rfl ⟨?_, ?_, Or.inl (Int.le_refl 0)⟩) (okV_7 t0) (no_rec (by decide))⟩
            · show (280, 0#64) = (280, BitVec.ofInt 64 0 + tp 0)
              rw [h.2.2.2.2.2.2.2]
              rfl
            · show inN (cstN 0#64) (tp 0)
              rw [h.2.2.2.2.2.2.2]
              exact inN_cst _
          · rw [if_neg o0, if_neg o0, if_pos (by omega)]
            exact ⟨_, rfl, regG_u (v := mkV 8 0 0) h (mk_8 rfl rfl) okV_8 (no_rec (by decide))⟩
        · rw [if_neg o4, if_neg (by omega), if_neg (by omega), if_pos (by omega)]
          refine ⟨_, rfl, regG_num h (inN_wide ?_)⟩
          have := hH (cW c) (fO w)
          have e : 2 ^ (8 * 4) = 4294967296 := by decide
          omega
    · rename_i k2
      rw [if_neg k2]
      split at hf
      · rename_i q; exact absurd hf q
      · rename_i q
        have q' : plcF (rgV S (sRr w)) = 0 := Decidable.not_not.mp q
        rw [if_neg q]
        have mv := plcF_0 q'
        split at hf
        · exfalso; have hf : (5 : Int) = 0 := hf; omega
        · rename_i q2
          have rm : room E (rgV S (sRr w)) (fO w) (bytN w) := Decidable.not_not.mp q2
          rw [if_neg q2]
          obtain ⟨lo, lx⟩ := room_g h ho mv gx ox (by omega) (by omega) rm
          have n1 : ¬ (rdR c (sRr w)).1 = 1 := by
            have := mvs_pt hs mv gx ox
            unfold isPt at this
            omega
          rw [if_neg n1]
          generalize ex : (offN (rdR c (sRr w)).2 (fO w)).toNat = x at *
          by_cases k3 : vk (rgV S (sRr w)) = 3
          · have lx := lx k3
            have e3 := gV_3 gx k3
            have ov := ox.2.2.1 k3
            have fo : (rdR c (sRr w)).1 = 2 + (vw (rgV S (sRr w))).toNat := by
              rw [e3]
              show (2 + vw (rgV S (sRr w))).toNat = _
              omega
            have fs : (vw (rgV S (sRr w))).toNat < sF S := by have := ho.1; omega
            have xl : x + bytN w ≤ 128 := by
              rcases lo with lo | lo
              · exact lo.2.2
              · exact absurd k3 lo.1
            have xe : (vo (rgV S (sRr w)) + fO w + 128).toNat = x := by omega
            generalize (vw (rgV S (sRr w))).toNat = f0 at *
            rw [fo, show 2 + f0 - 2 = f0 by omega]
            rw [xe] at hf ⊢
            by_cases wh : (bytN w = 8 ∧ x % 8 = 0) ∧ ¬ vk (sV S (26 * f0 + 10 + x / 8)) = 0
            · have c1 : vk (rgV S (sRr w)) = 3 ∧ (bytN w = 8 ∧ (vo (rgV S (sRr w)) + fO w + 128) % 8 = 0) ∧ ¬ vk (sV S (26 * f0 + 10 + x / 8)) = 0 := ⟨k3, ⟨wh.1.1, by omega⟩, wh.2⟩
              rw [if_pos c1]
              obtain ⟨s, s1, s2⟩ := (h.2.2.1 f0 (x / 8) fs (by omega)).2 wh.2
              have e8 : 8 * (x / 8) = x := by omega
              have oo := ho.2.1 (26 * f0 + 10 + x / 8) (by omega)
              rw [show (26 * f0 + 10 + x / 8) / 26 = f0 by omega] at oo
              have oo := okV_up (g' := sF S - 1) (by omega) oo
              have a1 : 2 ≤ 2 + f0 ∧ 2 + f0 ≤ 5 := by omega
              have a2 : x < 128 := by omega
              have fin : regG B E th tp S c t (sV S (26 * f0 + 10 + x / 8)) t s := regG_u h s1 oo (fun _ => ⟨_, by omega, rfl, rfl⟩)
              refine ⟨s, ?_, fin⟩
              rw [e8] at s2
              rcases s2 with s2 | s2
              · have b0 : (cS c f0 x).1 = 1 := s2.2.1 0 (by omega)
                rw [if_neg (fun e => by have := e.2.2; omega)]
                rw [rdL_stk (by omega) (bytN w) x xl (fun i hi => s2.2.1 i (by omega))]
                have m96 : ¬ fM w = 128 := by
                  have := b8 wh.1.1
                  omega
                simp only [if_neg m96]
                rw [wh.1.1, s2.2.2]
                exact congrArg some (Prod.ext s2.1.symm rfl)
              · have b0 : cS c f0 x = (2, s.1, s.2) := s2.2 0 (by omega)
                rw [if_pos (show (2 ≤ 2 + f0 ∧ 2 + f0 ≤ 5) ∧ (bytN w = 8 ∧ x % 8 = 0 ∧ x < 128) ∧ (cS c f0 x).1 = 2 from ⟨a1, ⟨wh.1.1, wh.1.2, a2⟩, by rw [b0]⟩)]
                rw [if_pos (fun j hj => by rw [b0]; exact s2.2 j hj), b0]
            · have c1 : ¬ (vk (rgV S (sRr w)) = 3 ∧ (bytN w = 8 ∧ (vo (rgV S (sRr w)) + fO w + 128) % 8 = 0) ∧ ¬ vk (sV S (26 * f0 + 10 + x / 8)) = 0) := fun e => wh ⟨⟨e.2.1.1, by omega⟩, e.2.2⟩
              rw [if_neg c1] at hf ⊢
              split at hf
              · exfalso; have hf : (6 : Int) = 0 := hf; omega
              · rename_i q3
                rw [if_neg q3]
                have ar : areS S f0 x (bytN w) = true := by
                  cases e : areS S f0 x (bytN w) with
                  | true => rfl
                  | false => exact absurd ⟨k3, e⟩ q3
                have b1 : ∀ i, i < bytN w → (cS c f0 (x + i)).1 = 1 := fun i hi => set_g h fs (by omega) (areS_t ar hi)
                have c2 : ¬ ((2 ≤ 2 + f0 ∧ 2 + f0 ≤ 5) ∧ (bytN w = 8 ∧ x % 8 = 0 ∧ x < 128) ∧ (cS c f0 x).1 = 2) := fun e => by
                  have := b1 0 (by omega)
                  have e2 : (cS c f0 x).1 = 2 := e.2.2
                  rw [show x + 0 = x from rfl] at this
                  omega
                rw [if_neg c2, rdL_stk (by omega) (bytN w) x xl b1]
                have lb : (leN ((List.range (bytN w)).map fun i => (cS c f0 (x + i)).2.2)).toNat < 2 ^ (8 * bytN w) := by
                  have := leN_lt ((List.range (bytN w)).map fun i => (cS c f0 (x + i)).2.2) (by rw [List.length_map, List.length_range]; omega) (fun y hy => by
                    obtain ⟨i, i1, i2⟩ := List.mem_map.mp hy
                    rw [← i2]
                    exact h.2.2.2.2.2.2.1 _ _ (b1 i (List.mem_range.mp i1)))
                  rwa [List.length_map, List.length_range] at this
                by_cases m : fM w = 128
                · simp only [if_pos m]
                  refine ⟨_, rfl, regG_num h (inN_td ⟨okN_sgn _, gN_sgn ?_ _⟩)⟩
                  have n8 : ¬ bytN w = 8 := fun e => by have := b8 e; omega
                  omega
                · simp only [if_neg m]
                  exact ⟨_, rfl, regG_num h (inN_wide lb)⟩
          · have ns : ¬ (2 ≤ (rdR c (sRr w)).1 ∧ (rdR c (sRr w)).1 ≤ 5) := by
              rcases lo with lo | ⟨_, lo⟩
              · exact absurd lo.1 k3
              · rcases lo with lo | lo | lo <;> omega
            rw [if_neg (show ¬ ((2 ≤ (rdR c (sRr w)).1 ∧ (rdR c (sRr w)).1 ≤ 5) ∧ (bytN w = 8 ∧ x % 8 = 0 ∧ x < 128) ∧ (cS c ((rdR c (sRr w)).1 - 2) x).1 = 2) from fun e => ns e.1)]
            rw [if_neg (fun e => k3 e.1), if_neg (fun e => k3 e.1)]
            obtain ⟨l, l1, l2, l3⟩ := rdL_some (B := B) (c := c) (o := (rdR c (sRr w)).1) (bytN w) x (fun i hi => rdB_wld hB k3 lo hi)
            rw [l1]
            have lb := leN_lt l (by omega) l3
            rw [l2] at lb
            by_cases m : fM w = 128
            · simp only [if_pos m]
              refine ⟨_, rfl, regG_num h (inN_td ⟨okN_sgn _, gN_sgn ?_ _⟩)⟩
              have n8 : ¬ bytN w = 8 := fun e => by have := b8 e; omega
              omega
            · simp only [if_neg m]
              exact ⟨_, rfl, regG_num h (inN_wide lb)⟩
end MM1
