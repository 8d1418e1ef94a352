/-! ===== what a STATE of the judge stands for ===== -/
/-- a VALUE of places that stands for a number or a place; ps: bytes of the packet; rz: bytes of records; hd: held; th: what a TAG tells; tp: the PART of a packet's TAG -/
def gV (E : EV) (ps : Nat) (rz : Nat → Int) (hd : List Int) (th : Int → Nat) (tp : Int → B64) (v : VL) (s : SV) : Prop :=
  (vk v = 1 → s.1 = 0 ∧ inN (vn v) s.2)
  ∧ (vk v = 2 → s = (1, 0#64))
  ∧ (vk v = 3 → s = ((2 + vw v).toNat, BitVec.ofInt 64 (128 + vo v)))
  ∧ (vk v = 4 → s = (8 + (vw v).toNat, 0#64))
  ∧ (vk v = 5 → ∃ (j : Nat) (p : B64), j < 32 ∧ s = (16 + 32 * (vw v).toNat + j, BitVec.ofInt 64 (vo v) + p) ∧ inN (vn v) p)
  ∧ (vk v = 6 → (th (vt v) = 0 ∧ s = (0, 0#64)) ∨ ∃ j : Nat, j < 32 ∧ th (vt v) = 16 + 32 * (vw v).toNat + j ∧ s = (16 + 32 * (vw v).toNat + j, 0#64))
  ∧ (vk v = 7 → s = (280, BitVec.ofInt 64 (vo v) + tp (vt v)) ∧ inN (vn v) (tp (vt v)) ∧ (vr v ≤ 0 ∨ ((tp (vt v)).toNat : Int) + vr v ≤ ps))
  ∧ (vk v = 8 → s = (280, BitVec.ofNat 64 ps))
  ∧ (vk v = 9 → ∃ (i : Nat) (p : B64), (i < 64 ∧ th (vt v) = 300 + i ∧ vt v ∈ hd) ∧ s = (300 + i, BitVec.ofInt 64 (vo v) + p) ∧ inN (vn v) p ∧ rz i = vw v)
  ∧ (vk v = 10 → (th (vt v) = 0 ∧ s = (0, 0#64)) ∨ ∃ i : Nat, (i < 64 ∧ th (vt v) = 300 + i ∧ vt v ∈ hd) ∧ s = (300 + i, 0#64) ∧ rz i = vw v)
/-- what is always so of a VALUE in frame g, the newest TAG being t -/
def okV (E : EV) (g : Nat) (t : Int) (v : VL) : Prop :=
  (0 ≤ vk v ∧ vk v ≤ 10)
  ∧ (mvs v → -4096 ≤ vo v ∧ vo v ≤ 4096)
  ∧ (vk v = 3 → 0 ≤ vw v ∧ vw v ≤ g)
  ∧ (vk v = 4 → 0 ≤ vw v ∧ vw v ≤ 7 ∧ 0 ≤ E.1 (vw v).toNat)
  ∧ (vk v = 5 ∨ vk v = 6 → (0 ≤ vw v ∧ vw v ≤ 7) ∧ 1 ≤ E.2.2 (vw v).toNat ∧ E.2.2 (vw v).toNat ≤ 64)
  ∧ (vk v = 5 ∨ vk v = 7 ∨ vk v = 9 → (jB (vn v)).toNat ≤ 65535)
  ∧ (vk v = 6 ∨ vk v = 9 ∨ vk v = 10 → 1 ≤ vt v ∧ vt v ≤ t)
  ∧ (vk v = 7 → 0 ≤ vt v ∧ vt v ≤ t)
  ∧ (vk v = 9 ∨ vk v = 10 → 1 ≤ vw v ∧ vw v ≤ 64)
  ∧ (vk v = 7 → vr v ≤ 4097)
/-- maps as they can be told -/
def okE (E : EV) : Prop := ∀ m : Nat, m < 8 → 0 ≤ E.1 m → (E.1 m ≤ 3) ∧ (E.1 m ≤ 1 → (1 ≤ E.2.1 m ∧ E.2.1 m ≤ 16) ∧ (1 ≤ E.2.2 m ∧ E.2.2 m ≤ 64))
def okS (E : EV) (t : Int) (S : ST) : Prop :=
  (1 ≤ sF S ∧ sF S ≤ 4)
  ∧ (∀ k : Nat, k < 26 * sF S → okV E (k / 26) t (sV S k))
  ∧ (∀ k k' : Nat, k < 26 * sF S → k' < 26 * sF S → vk (sV S k) = 9 → vk (sV S k') = 10 → ¬ vt (sV S k) = vt (sV S k'))
  ∧ (∀ h : Int, h ∈ sH S → 1 ≤ h ∧ h ≤ t)
  ∧ (sH S).Nodup ∧ (sH S).length ≤ 64 ∧ 0 ≤ t
/-- eight bytes that are a number or a place -/
def hol (s : SV) (m : Nat → MB) : Prop := (s.1 = 0 ∧ (∀ i, i < 8 → (m i).1 = 1) ∧ leN ((List.range 8).map fun i => (m i).2.2) = s.2) ∨ ((1 ≤ s.1 ∧ ¬ s.1 = 6) ∧ ∀ i, i < 8 → m i = (2 + i, s.1, s.2))
/-- what a part stands for -/
def gP (E : EV) (ps : Nat) (rz : Nat → Int) (hd : List Int) (th : Int → Nat) (tp : Int → B64) (v : VL) (m : Nat → MB) : Prop :=
  (vk v = 0 → ∀ i, i < 8 → (vr v).toNat.testBit i = true → (m i).1 = 1) ∧ (¬ vk v = 0 → ∃ s, gV E ps rz hd th tp v s ∧ hol s m)
/-- what the rest of a machine keeps -/
def okB {W : Type} (B : WB W) : Prop := (∀ w o b v, B.1 (B.2.2.1 w o b v) = B.1 w ∧ B.2.2.2.1 (B.2.2.1 w o b v) = B.2.2.2.1 w ∧ B.2.2.2.2 (B.2.2.1 w o b v) = B.2.2.2.2 w) ∧ (∀ w o b, (B.2.1 w o b).toNat < 256) ∧ ∀ w, B.1 w ≤ 256
def gS {W : Type} (B : WB W) (E : EV) (th : Int → Nat) (tp : Int → B64) (S : ST) (c : TC W) : Prop :=
  cN c = sF S
  ∧ (∀ f r : Nat, f < sF S → r < 10 → gV E (B.1 (cW c)) (B.2.2.2.2 (cW c)) (sH S) th tp (sV S (26 * f + r)) (cR c f r))
  ∧ (∀ f q : Nat, f < sF S → q < 16 → gP E (B.1 (cW c)) (B.2.2.2.2 (cW c)) (sH S) th tp (sV S (26 * f + 10 + q)) (fun i => cS c f (8 * q + i)))
  ∧ (∀ f : Nat, 1 ≤ f → f < sF S → cB c f = sB S f)
  ∧ (∀ i : Nat, i < 64 → (B.2.2.2.1 (cW c) i = true ↔ ∃ h ∈ sH S, th h = 300 + i))
  ∧ (∀ h h' : Int, h ∈ sH S → h' ∈ sH S → th h = th h' → ¬ th h = 0 → h = h')
  ∧ (∀ f b : Nat, (cS c f b).1 = 1 → (cS c f b).2.2.toNat < 256)
  ∧ tp 0 = 0#64
section GV
variable {E : EV} {ps : Nat} {rz : Nat → Int} {hd : List Int} {th : Int → Nat} {tp : Int → B64} {v : VL} {s : SV}
theorem gV_1 (h : gV E ps rz hd th tp v s) (k : vk v = 1) : s.1 = 0 ∧ inN (vn v) s.2 := h.1 k
theorem gV_2 (h : gV E ps rz hd th tp v s) (k : vk v = 2) : s = (1, 0#64) := h.2.1 k
theorem gV_3 (h : gV E ps rz hd th tp v s) (k : vk v = 3) : s = ((2 + vw v).toNat, BitVec.ofInt 64 (128 + vo v)) := h.2.2.1 k
theorem gV_4 (h : gV E ps rz hd th tp v s) (k : vk v = 4) : s = (8 + (vw v).toNat, 0#64) := h.2.2.2.1 k
theorem gV_5 (h : gV E ps rz hd th tp v s) (k : vk v = 5) : ∃ (j : Nat) (p : B64), j < 32 ∧ s = (16 + 32 * (vw v).toNat + j, BitVec.ofInt 64 (vo v) + p) ∧ inN (vn v) p := h.2.2.2.2.1 k
theorem gV_6 (h : gV E ps rz hd th tp v s) (k : vk v = 6) : (th (vt v) = 0 ∧ s = (0, 0#64)) ∨ ∃ j : Nat, j < 32 ∧ th (vt v) = 16 + 32 * (vw v).toNat + j ∧ s = (16 + 32 * (vw v).toNat + j, 0#64) := h.2.2.2.2.2.1 k
theorem gV_7 (h : gV E ps rz hd th tp v s) (k : vk v = 7) : s = (280, BitVec.ofInt 64 (vo v) + tp (vt v)) ∧ inN (vn v) (tp (vt v)) ∧ (vr v ≤ 0 ∨ ((tp (vt v)).toNat : Int) + vr v ≤ ps) := h.2.2.2.2.2.2.1 k
theorem gV_8 (h : gV E ps rz hd th tp v s) (k : vk v = 8) : s = (280, BitVec.ofNat 64 ps) := h.2.2.2.2.2.2.2.1 k
theorem gV_9 (h : gV E ps rz hd th tp v s) (k : vk v = 9) : ∃ (i : Nat) (p : B64), (i < 64 ∧ th (vt v) = 300 + i ∧ vt v ∈ hd) ∧ s = (300 + i, BitVec.ofInt 64 (vo v) + p) ∧ inN (vn v) p ∧ rz i = vw v := h.2.2.2.2.2.2.2.2.1 k
theorem gV_10 (h : gV E ps rz hd th tp v s) (k : vk v = 10) : (th (vt v) = 0 ∧ s = (0, 0#64)) ∨ ∃ i : Nat, (i < 64 ∧ th (vt v) = 300 + i ∧ vt v ∈ hd) ∧ s = (300 + i, 0#64) ∧ rz i = vw v := h.2.2.2.2.2.2.2.2.2 k
theorem mk_0 (k : vk v = 0) : gV E ps rz hd th tp v s := by
  refine ⟨?_, ?_, ?_, ?_, ?_, ?_, ?_, ?_, ?_, ?_⟩ <;> intro e <;> (exfalso; omega)
theorem mk_1 (k : vk v = 1) (h : s.1 = 0 ∧ inN (vn v) s.2) : gV E ps rz hd th tp v s := by
  refine ⟨fun _ => h, ?_, ?_, ?_, ?_, ?_, ?_, ?_, ?_, ?_⟩ <;> intro e <;> (exfalso; omega)
theorem mk_2 (k : vk v = 2) (h : s = (1, 0#64)) : gV E ps rz hd th tp v s := by
  refine ⟨?_, fun _ => h, ?_, ?_, ?_, ?_, ?_, ?_, ?_, ?_⟩ <;> intro e <;> (exfalso; omega)
theorem mk_3 (k : vk v = 3) (h : s = ((2 + vw v).toNat, BitVec.ofInt 64 (128 + vo v))) : gV E ps rz hd th tp v s := by
  refine ⟨?_, ?_, fun _ => h, ?_, ?_, ?_, ?_, ?_, ?_, ?_⟩ <;> intro e <;> (exfalso; omega)
theorem mk_4 (k : vk v = 4) (h : s = (8 + (vw v).toNat, 0#64)) : gV E ps rz hd th tp v s := by
  refine ⟨?_, ?_, ?_, fun _ => h, ?_, ?_, ?_, ?_, ?_, ?_⟩ <;> intro e <;> (exfalso; omega)
theorem mk_5 (k : vk v = 5) (h : ∃ (j : Nat) (p : B64), j < 32 ∧ s = (16 + 32 * (vw v).toNat + j, BitVec.ofInt 64 (vo v) + p) ∧ inN (vn v) p) : gV E ps rz hd th tp v s := by
  refine ⟨?_, ?_, ?_, ?_, fun _ => h, ?_, ?_, ?_, ?_, ?_⟩ <;> intro e <;> (exfalso; omega)
theorem mk_6 (k : vk v = 6) (h : (th (vt v) = 0 ∧ s = (0, 0#64)) ∨ ∃ j : Nat, j < 32 ∧ th (vt v) = 16 + 32 * (vw v).toNat + j ∧ s = (16 + 32 * (vw v).toNat + j, 0#64)) : gV E ps rz hd th tp v s := by
  refine ⟨?_, ?_, ?_, ?_, ?_, fun _ => h, ?_, ?_, ?_, ?_⟩ <;> intro e <;> (exfalso; omega)
theorem mk_7 (k : vk v = 7) (h : s = (280, BitVec.ofInt 64 (vo v) + tp (vt v)) ∧ inN (vn v) (tp (vt v)) ∧ (vr v ≤ 0 ∨ ((tp (vt v)).toNat : Int) + vr v ≤ ps)) : gV E ps rz hd th tp v s := by
  refine ⟨?_, ?_, ?_, ?_, ?_, ?_, fun _ => h, ?_, ?_, ?_⟩ <;> intro e <;> (exfalso; omega)
theorem mk_8 (k : vk v = 8) (h : s = (280, BitVec.ofNat 64 ps)) : gV E ps rz hd th tp v s := by
  refine ⟨?_, ?_, ?_, ?_, ?_, ?_, ?_, fun _ => h, ?_, ?_⟩ <;> intro e <;> (exfalso; omega)
theorem mk_9 (k : vk v = 9) (h : ∃ (i : Nat) (p : B64), (i < 64 ∧ th (vt v) = 300 + i ∧ vt v ∈ hd) ∧ s = (300 + i, BitVec.ofInt 64 (vo v) + p) ∧ inN (vn v) p ∧ rz i = vw v) : gV E ps rz hd th tp v s := by
  refine ⟨?_, ?_, ?_, ?_, ?_, ?_, ?_, ?_, fun _ => h, ?_⟩ <;> intro e <;> (exfalso; omega)
theorem mk_10 (k : vk v = 10) (h : (th (vt v) = 0 ∧ s = (0, 0#64)) ∨ ∃ i : Nat, (i < 64 ∧ th (vt v) = 300 + i ∧ vt v ∈ hd) ∧ s = (300 + i, 0#64) ∧ rz i = vw v) : gV E ps rz hd th tp v s := by
  refine ⟨?_, ?_, ?_, ?_, ?_, ?_, ?_, ?_, ?_, fun _ => h⟩ <;> intro e <;> (exfalso; omega)
theorem gV_num {n : N6} {x : B64} (h : inN n x) : gV E ps rz hd th tp (numV n) (0, x) := mk_1 rfl ⟨rfl, h⟩
theorem okV_num {g : Nat} {t : Int} {n : N6} : okV E g t (numV n) := by
  have k1 : vk (numV n) = 1 := rfl
  refine ⟨by omega, ?_, ?_, ?_, ?_, ?_, ?_, ?_, ?_, ?_⟩ <;> intro e <;> (exfalso; omega)
theorem okV_uns {g : Nat} {t : Int} : okV E g t unsV := by
  have k1 : vk unsV = 0 := rfl
  refine ⟨by omega, ?_, ?_, ?_, ?_, ?_, ?_, ?_, ?_, ?_⟩ <;> intro e <;> (exfalso; omega)
/-- a TAG that no VALUE has yet -/
theorem gV_tp {x : B64} {t t' : Int} {g : Nat} (ho : okV E g t v) (ht : t < t') (h : gV E ps rz hd th tp v s) : gV E ps rz hd th (fun i => if i = t' then x else tp i) v s := by
  obtain ⟨h1, h2, h3, h4, h5, h6, h7, h8, h9, h10⟩ := h
  refine ⟨h1, h2, h3, h4, h5, h6, fun k => ?_, h8, h9, h10⟩
  have q := ho.2.2.2.2.2.2.2.1 k
  have e : ¬ vt v = t' := by omega
  simp only [if_neg e]
  exact h7 k
theorem gV_th {o : Nat} {t t' : Int} {g : Nat} (ho : okV E g t v) (ht : t < t') (h : gV E ps rz hd th tp v s) : gV E ps rz hd (fun i => if i = t' then o else th i) tp v s := by
  obtain ⟨h1, h2, h3, h4, h5, h6, h7, h8, h9, h10⟩ := h
  have q : vk v = 6 ∨ vk v = 9 ∨ vk v = 10 → ¬ vt v = t' := fun k => by have := ho.2.2.2.2.2.2.1 k; omega
  refine ⟨h1, h2, h3, h4, h5, fun k => ?_, h7, h8, fun k => ?_, fun k => ?_⟩
  · simp only [if_neg (q (Or.inl k))]; exact h6 k
  · simp only [if_neg (q (Or.inr (Or.inl k)))]; exact h9 k
  · simp only [if_neg (q (Or.inr (Or.inr k)))]; exact h10 k
end GV
theorem okV_mono {E : EV} {g : Nat} {t t' : Int} {v : VL} (ht : t ≤ t') (h : okV E g t v) : okV E g t' v := by
  obtain ⟨h1, h2, h3, h4, h5, h6, h7, h8, h9⟩ := h
  refine ⟨h1, h2, h3, h4, h5, h6, fun k => ?_, fun k => ?_, h9⟩
  · have := h7 k; omega
  · have := h8 k; omega
theorem okV_up {E : EV} {g g' : Nat} {t : Int} {v : VL} (hg : g ≤ g') (h : okV E g t v) : okV E g' t v := by
  obtain ⟨h1, h2, h3, h4⟩ := h
  exact ⟨h1, h2, fun k => by have := h3 k; omega, h4⟩
theorem okS_mono {E : EV} {t t' : Int} {S : ST} (ht : t ≤ t') (h : okS E t S) : okS E t' S := by
  obtain ⟨h1, h2, h3, h4, h5, h6, h7⟩ := h
  exact ⟨h1, fun k hk => okV_mono ht (h2 k hk), h3, fun i hi => by have := h4 i hi; omega, h5, h6, by omega⟩
/-! registers -/
section RG
variable {W : Type} {B : WB W} {E : EV} {th : Int → Nat} {tp : Int → B64} {S : ST} {c : TC W} {t : Int}
theorem rV_g (h : gS B E th tp S c) (ho : okS E t S) {r : Nat} (hr : r ≤ 10) : gV E (B.1 (cW c)) (B.2.2.2.2 (cW c)) (sH S) th tp (rgV S r) (rdR c r) := by
  obtain ⟨h1, h2, -⟩ := h
  obtain ⟨⟨o1, o2⟩, -⟩ := ho
  unfold rgV rdR
  by_cases e : r = 10
  · rw [if_pos e, if_pos e]
    refine mk_3 rfl ?_
    show (cN c + 1, 128#64) = ((2 + ((sF S : Int) - 1)).toNat, BitVec.ofInt 64 (128 + 0))
    rw [h1]
    have : (2 + ((sF S : Int) - 1)).toNat = sF S + 1 := by omega
    rw [this]
    rfl
  · rw [if_neg e, if_neg e, h1]
    exact h2 (sF S - 1) r (by omega) (by omega)
theorem rV_ok (ho : okS E t S) {r : Nat} (hr : r ≤ 10) : okV E (sF S - 1) t (rgV S r) := by
  obtain ⟨⟨o1, o2⟩, o3, -⟩ := ho
  unfold rgV
  by_cases e : r = 10
  · rw [if_pos e]
    refine ⟨⟨by show (0 : Int) ≤ 3; decide, by show (3 : Int) ≤ 10; decide⟩, fun _ => ⟨by show (-4096 : Int) ≤ 0; decide, by show (0 : Int) ≤ 4096; decide⟩, fun _ => ?_, ?_, ?_, ?_, ?_, ?_, ?_, ?_⟩
    · show (0 : Int) ≤ (sF S : Int) - 1 ∧ (sF S : Int) - 1 ≤ ((sF S - 1 : Nat) : Int)
      omega
    all_goals (intro k; exfalso; have k3 : vk (mkV 3 ((sF S : Int) - 1) 0) = 3 := rfl; omega)
  · rw [if_neg e]
    have := o3 (26 * (sF S - 1) + r) (by omega)
    rwa [show (26 * (sF S - 1) + r) / 26 = sF S - 1 by omega] at this
theorem wV_g (h : gS B E th tp S c) (ho : okS E t S) {r : Nat} (hr : r < 10) {v : VL} {s : SV} (hv : gV E (B.1 (cW c)) (B.2.2.2.2 (cW c)) (sH S) th tp v s) : gS B E th tp (wV S r v) (wrR c r s) := by
  obtain ⟨h1, h2, h3, h4⟩ := h
  obtain ⟨⟨o1, o2⟩, -⟩ := ho
  refine ⟨h1, fun f r' hf hr' => ?_, fun f q hf hq => ?_, h4⟩
  · show gV E _ _ _ th tp (if 26 * f + r' = 26 * (sF S - 1) + r then v else sV S (26 * f + r')) (if f = cN c - 1 ∧ r' = r then s else cR c f r')
    by_cases e : 26 * f + r' = 26 * (sF S - 1) + r
    · rw [if_pos e, if_pos (by rw [h1]; omega)]
      exact hv
    · rw [if_neg e, if_neg (by rw [h1]; omega)]
      exact h2 f r' hf hr'
  · show gP E _ _ _ th tp (if 26 * f + 10 + q = 26 * (sF S - 1) + r then v else sV S (26 * f + 10 + q)) _
    rw [if_neg (by omega)]
    exact h3 f q hf hq
theorem wV_ok {t' : Int} (ho : okS E t S) (ht : t ≤ t') {r : Nat} (hr : r < 10) {v : VL} (hv : okV E (sF S - 1) t' v) (hs : vk v = 9 ∨ vk v = 10 → ∃ k, k < 26 * sF S ∧ vk (sV S k) = vk v ∧ vt (sV S k) = vt v) : okS E t' (wV S r v) := by
  obtain ⟨⟨o1, o2⟩, o3, o4, o5, o6⟩ := okS_mono ht ho
  refine ⟨⟨o1, o2⟩, fun k hk => ?_, fun k k' hk hk' a b => ?_, o5, o6⟩
  · show okV E (k / 26) t' (if k = 26 * (sF S - 1) + r then v else sV S k)
    by_cases e : k = 26 * (sF S - 1) + r
    · rw [if_pos e, show k / 26 = sF S - 1 by omega]
      exact hv
    · rw [if_neg e]
      exact o3 k hk
  · have a : vk (if k = 26 * (sF S - 1) + r then v else sV S k) = 9 := a
    have b : vk (if k' = 26 * (sF S - 1) + r then v else sV S k') = 10 := b
    show ¬ vt (if k = 26 * (sF S - 1) + r then v else sV S k) = vt (if k' = 26 * (sF S - 1) + r then v else sV S k')
    by_cases e : k = 26 * (sF S - 1) + r <;> by_cases e' : k' = 26 * (sF S - 1) + r
    · rw [if_pos e] at a
      rw [if_pos e'] at b
      omega
    · rw [if_pos e] at a ⊢
      rw [if_neg e'] at b ⊢
      obtain ⟨j, j1, j2, j3⟩ := hs (Or.inl a)
      rw [← j3]
      exact o4 j k' j1 hk' (j2.trans a) b
    · rw [if_neg e] at a ⊢
      rw [if_pos e'] at b ⊢
      obtain ⟨j, j1, j2, j3⟩ := hs (Or.inr b)
      rw [← j3]
      exact o4 k j hk j1 a (j2.trans b)
    · rw [if_neg e] at a ⊢
      rw [if_neg e'] at b ⊢
      exact o4 k k' hk hk' a b
/-- a register's VALUE is one of the state's, if it is a record -/
theorem rV_at (ho : okS E t S) {r : Nat} (hr : r ≤ 10) (h : vk (rgV S r) = 9 ∨ vk (rgV S r) = 10) : ∃ k, k < 26 * sF S ∧ vk (sV S k) = vk (rgV S r) ∧ vt (sV S k) = vt (rgV S r) := by
  obtain ⟨⟨o1, o2⟩, -⟩ := ho
  unfold rgV at h ⊢
  by_cases e : r = 10
  · rw [if_pos e] at h
    exfalso
    have k3 : vk (mkV 3 ((sF S : Int) - 1) 0) = 3 := rfl
    omega
  · rw [if_neg e]
    exact ⟨_, by omega, rfl, rfl⟩
theorem gS_tp (h : gS B E th tp S c) (ho : okS E t S) {t' : Int} (ht : t < t') (x : B64) : gS B E th (fun i => if i = t' then x else tp i) S c := by
  obtain ⟨h1, h2, h3, h4, h5, h6, h7, h8⟩ := h
  obtain ⟨⟨o1, o2⟩, o3, -, -, -, -, o7⟩ := ho
  refine ⟨h1, fun f r hf hr => gV_tp (o3 _ (by omega)) ht (h2 f r hf hr), fun f q hf hq => ?_, h4, h5, h6, h7, ?_⟩
  · obtain ⟨a, b⟩ := h3 f q hf hq
    refine ⟨a, fun k => ?_⟩
    obtain ⟨s, s1, s2⟩ := b k
    exact ⟨s, gV_tp (o3 _ (by omega)) ht s1, s2⟩
  · show (if (0 : Int) = t' then x else tp 0) = 0#64
    rw [if_neg (by omega)]
    exact h8
theorem gS_th (h : gS B E th tp S c) (ho : okS E t S) {t' : Int} (ht : t < t') (o : Nat) : gS B E (fun i => if i = t' then o else th i) tp S c := by
  obtain ⟨h1, h2, h3, h4, h5, h6, h7, h8⟩ := h
  obtain ⟨⟨o1, o2⟩, o3, -, o5, -, -, o7⟩ := ho
  have e : ∀ i, i ∈ sH S → (if i = t' then o else th i) = th i := fun i hi => if_neg (by have := o5 i hi; omega)
  refine ⟨h1, fun f r hf hr => gV_th (o3 _ (by omega)) ht (h2 f r hf hr), fun f q hf hq => ?_, h4, fun i hi => (h5 i hi).trans ⟨?_, ?_⟩, fun a b ha hb => ?_, h7, h8⟩
  · obtain ⟨a, b⟩ := h3 f q hf hq
    refine ⟨a, fun k => ?_⟩
    obtain ⟨s, s1, s2⟩ := b k
    exact ⟨s, gV_th (o3 _ (by omega)) ht s1, s2⟩
  · rintro ⟨g, g1, g2⟩
    exact ⟨g, g1, (e g g1).trans g2⟩
  · rintro ⟨g, g1, g2⟩
    exact ⟨g, g1, (e g g1).symm.trans g2⟩
  · intro q1 q2
    have q1 : (if a = t' then o else th a) = (if b = t' then o else th b) := q1
    have q2 : ¬ (if a = t' then o else th a) = 0 := q2
    rw [e a ha, e b hb] at q1
    rw [e a ha] at q2
    exact h6 a b ha hb q1 q2
theorem goT_g (h : gS B E th tp S c) (i : Int) : gS B E th tp S (goT c i) := h
end RG
