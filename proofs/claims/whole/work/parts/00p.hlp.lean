/-! ===== helpers: what the judge says is so ===== -/
/-- what helpers make of the rest of a machine -/
def okH {W : Type} (B : WB W) (H : WH W) : Prop :=
  (∀ w i, (H.1 w i).toNat < 4294967296)
  ∧ (∀ w x, B.1 (H.2.1 w x) = B.1 w ∧ B.2.2.2.1 (H.2.1 w x) = B.2.2.2.1 w ∧ B.2.2.2.2 (H.2.1 w x) = B.2.2.2.2 w)
  ∧ (∀ w m k j, H.2.2.1 w m k = some j → j < 32)
  ∧ (∀ w m k v f, B.1 (H.2.2.2.1 w m k v f).1 = B.1 w ∧ B.2.2.2.1 (H.2.2.2.1 w m k v f).1 = B.2.2.2.1 w ∧ B.2.2.2.2 (H.2.2.2.1 w m k v f).1 = B.2.2.2.2 w)
  ∧ (∀ w m k, B.1 (H.2.2.2.2.1 w m k).1 = B.1 w ∧ B.2.2.2.1 (H.2.2.2.2.1 w m k).1 = B.2.2.2.1 w ∧ B.2.2.2.2 (H.2.2.2.2.1 w m k).1 = B.2.2.2.2 w)
  ∧ (∀ w l, B.1 (H.2.2.2.2.2.2.1 w l) = B.1 w ∧ B.2.2.2.1 (H.2.2.2.2.2.2.1 w l) = B.2.2.2.1 w ∧ B.2.2.2.2 (H.2.2.2.2.2.2.1 w l) = B.2.2.2.2 w)
  ∧ (∀ w, (B.1 (H.2.2.2.2.2.2.2.1 w).1 = B.1 w ∧ B.2.2.2.1 (H.2.2.2.2.2.2.2.1 w).1 = B.2.2.2.1 w ∧ B.2.2.2.2 (H.2.2.2.2.2.2.2.1 w).1 = B.2.2.2.2 w) ∧ (H.2.2.2.2.2.2.2.1 w).2.toNat < 4294967296)
  ∧ (∀ w m x v, H.2.2.2.2.2.2.2.2.1 w m x = some v → B.2.2.2.1 v = B.2.2.2.1 w)
  ∧ (∀ w x n, (H.2.2.2.2.2.2.2.2.2.1 w x n).1.length = n ∧ ∀ y ∈ (H.2.2.2.2.2.2.2.2.2.1 w x n).1, y.toNat < 256)
  ∧ (∀ w x, B.2.2.2.1 (H.2.2.2.2.2.2.2.2.2.2.1 w x).1 = B.2.2.2.1 w ∧ B.2.2.2.2 (H.2.2.2.2.2.2.2.2.2.2.1 w x).1 = B.2.2.2.2 w)
  ∧ (∀ w m n, B.1 (H.2.2.2.2.2.2.2.2.2.2.2.1 w m n).1 = B.1 w ∧ ((H.2.2.2.2.2.2.2.2.2.2.2.1 w m n).2 = none → B.2.2.2.1 (H.2.2.2.2.2.2.2.2.2.2.2.1 w m n).1 = B.2.2.2.1 w ∧ B.2.2.2.2 (H.2.2.2.2.2.2.2.2.2.2.2.1 w m n).1 = B.2.2.2.2 w) ∧ ∀ i, (H.2.2.2.2.2.2.2.2.2.2.2.1 w m n).2 = some i → i < 64 ∧ B.2.2.2.1 w i = false ∧ (∀ j, j < 64 → (B.2.2.2.1 (H.2.2.2.2.2.2.2.2.2.2.2.1 w m n).1 j = true ↔ (j = i ∨ B.2.2.2.1 w j = true))) ∧ B.2.2.2.2 (H.2.2.2.2.2.2.2.2.2.2.2.1 w m n).1 i = n ∧ ∀ j, ¬ j = i → B.2.2.2.2 (H.2.2.2.2.2.2.2.2.2.2.2.1 w m n).1 j = B.2.2.2.2 w j)
  ∧ (∀ w i b, B.1 (H.2.2.2.2.2.2.2.2.2.2.2.2 w i b) = B.1 w ∧ B.2.2.2.2 (H.2.2.2.2.2.2.2.2.2.2.2.2 w i b) = B.2.2.2.2 w ∧ ∀ j, j < 64 → (B.2.2.2.1 (H.2.2.2.2.2.2.2.2.2.2.2.2 w i b) j = true ↔ (¬ j = i ∧ B.2.2.2.1 w j = true)))
theorem fst_0 {a b : Int} (h : fst a b = 0) : a = 0 ∧ b = 0 := by
  unfold fst at h
  split at h
  · exact ⟨by assumption, h⟩
  · rename_i e; exact absurd h e
theorem wntA_0 {x : VL} {p : Bool} (h : wntA x p = 0) : ¬ vk x = 0 ∧ ¬ isMb x ∧ p = true := by
  unfold wntA at h
  split at h
  · exfalso; omega
  · split at h
    · exfalso; omega
    · split at h
      · exact ⟨by assumption, by assumption, by assumption⟩
      · exfalso; omega
section HP
variable {W : Type} {B : WB W} {E : EV} {th : Int → Nat} {tp : Int → B64} {S : ST} {c : TC W} {t : Int}
theorem offN_0 (x : B64) : offN x 0 = x := by
  show x + BitVec.ofInt 64 0 = x
  have e : BitVec.ofInt 64 0 = 0#64 := rfl
  rw [e, BitVec.add_zero]
theorem locG_le {v : VL} {o x n k : Nat} (h : locG B S c v o x n) (hk : k ≤ n) : locG B S c v o x k := by
  rcases h with ⟨h1, h2, h3⟩ | ⟨h1, h⟩
  · exact Or.inl ⟨h1, h2, by omega⟩
  · refine Or.inr ⟨h1, ?_⟩
    rcases h with h | h | h
    · exact Or.inl ⟨h.1, by omega⟩
    · exact Or.inr (Or.inl ⟨h.1, by omega⟩)
    · exact Or.inr (Or.inr ⟨h.1, by omega, h.2.2⟩)
theorem areS_le {f b n k : Nat} (h : areS S f b n = true) (hk : k ≤ n) : areS S f b k = true := by
  unfold areS at h ⊢
  rw [List.all_eq_true] at h ⊢
  intro i hi
  exact h i (List.mem_range.mpr (by have := List.mem_range.mp hi; omega))
/-- bytes that a helper reads -/
theorem byt_g (hB : okB B) (h : gS B E th tp S c) (ho : okS E t S) {x : VL} {s : SV} {n : Int} {k : Nat} (gx : gV E (B.1 (cW c)) (B.2.2.2.2 (cW c)) (sH S) th tp x s) (ox : okV E (sF S - 1) t x) (hn : 1 ≤ n ∧ n ≤ 128) (hk : (k : Int) ≤ n) (hf : wntB E S x n = 0) : ∃ l, rdL B c s.1 s.2.toNat k = some l := by
  unfold wntB at hf
  split at hf
  · rename_i e; exact absurd hf e
  · rename_i e
    have mv : mvs x := by simpa using (wntA_0 (Decidable.not_not.mp e)).2.2
    split at hf
    · exfalso; omega
    · rename_i e2
      have rm := Decidable.not_not.mp e2
      split at hf
      · exfalso; omega
      · rename_i e3
        have en : ((n.toNat : Nat) : Int) = n := by omega
        rw [← en] at rm
        obtain ⟨lo, lx⟩ := room_g h ho mv gx ox (by omega) (by omega) rm
        rw [offN_0] at lo lx
        obtain ⟨l, l1, -⟩ := rdL_g hB h ho (locG_le lo (k := k) (by omega)) (fun k3 => by
          have lx := lx k3
          have xe : (vo x + 128).toNat = s.2.toNat := by omega
          rw [xe] at e3
          refine areS_le (n := n.toNat) ?_ (by omega)
          cases q : areS S (vw x).toNat s.2.toNat n.toNat with
          | true => rfl
          | false => exact absurd ⟨k3, q⟩ e3)
        exact ⟨l, l1⟩
/-- behind a helper -/
theorem bh_g {th' : Int → Nat} {tp' : Int → B64} {S' : ST} {s : Nat → Nat → MB} {v : W} {vl : VL} {r : SV} (hF : sF S' = sF S) (hN : cN c = sF S) (ho : 1 ≤ sF S) {n : Int} (h : gS B E th' tp' S' (cP c, cN c, cR c, s, cB c, v)) (gv : gV E (B.1 v) (B.2.2.2.2 v) (sH S') th' tp' vl r) : gS B E th' tp' (wV (unsA S') 0 vl) (n, cN c, upR (nilA (cR c) (cN c - 1)) (cN c - 1) 0 r, s, cB c, v) := by
  obtain ⟨h1, h2, h3, h4⟩ := h
  refine ⟨h1, fun f r' hf hr => ?_, fun f q hf hq => ?_, h4⟩
  · have hf : f < sF S' := hf
    show gV E _ _ _ th' tp' (if 26 * f + r' = 26 * (sF S' - 1) + 0 then vl else (if 26 * (sF S' - 1) + 1 ≤ 26 * f + r' ∧ 26 * f + r' ≤ 26 * (sF S' - 1) + 5 then unsV else sV S' (26 * f + r'))) (if f = cN c - 1 ∧ r' = 0 then r else (if f = cN c - 1 ∧ 1 ≤ r' ∧ r' ≤ 5 then nilR else cR c f r'))
    rw [hN, hF]
    rw [hF] at hf
    by_cases c1 : 26 * f + r' = 26 * (sF S - 1) + 0
    · have d1 : f = sF S - 1 ∧ r' = 0 := by omega
      rw [if_pos c1, if_pos d1]
      exact gv
    · have d1 : ¬ (f = sF S - 1 ∧ r' = 0) := by omega
      rw [if_neg c1, if_neg d1]
      by_cases c2 : 26 * (sF S - 1) + 1 ≤ 26 * f + r' ∧ 26 * f + r' ≤ 26 * (sF S - 1) + 5
      · rw [if_pos c2]
        exact mk_0 rfl
      · have d2 : ¬ (f = sF S - 1 ∧ 1 ≤ r' ∧ r' ≤ 5) := by omega
        rw [if_neg c2, if_neg d2]
        exact h2 f r' (by rw [hF]; exact hf) hr
  · have hf : f < sF S' := hf
    show gP E _ _ _ th' tp' (if 26 * f + 10 + q = 26 * (sF S' - 1) + 0 then vl else (if 26 * (sF S' - 1) + 1 ≤ 26 * f + 10 + q ∧ 26 * f + 10 + q ≤ 26 * (sF S' - 1) + 5 then unsV else sV S' (26 * f + 10 + q))) _
    rw [hF] at hf ⊢
    rw [if_neg (by omega), if_neg (by omega)]
    exact h3 f q (by rw [hF]; exact hf) hq
theorem uns_ok (ho : okS E t S) : okS E t (unsA S) := by
  obtain ⟨o1, o3, o4, o5⟩ := ho
  refine ⟨o1, fun k hk => ?_, fun k k' hk hk' a b => ?_, o5⟩
  · show okV E (k / 26) t (if 26 * (sF S - 1) + 1 ≤ k ∧ k ≤ 26 * (sF S - 1) + 5 then unsV else sV S k)
    split
    · exact okV_uns
    · exact o3 k hk
  · have u0 : vk unsV = 0 := rfl
    have a : vk (if 26 * (sF S - 1) + 1 ≤ k ∧ k ≤ 26 * (sF S - 1) + 5 then unsV else sV S k) = 9 := a
    have b : vk (if 26 * (sF S - 1) + 1 ≤ k' ∧ k' ≤ 26 * (sF S - 1) + 5 then unsV else sV S k') = 10 := b
    show ¬ vt (if 26 * (sF S - 1) + 1 ≤ k ∧ k ≤ 26 * (sF S - 1) + 5 then unsV else sV S k) = vt (if 26 * (sF S - 1) + 1 ≤ k' ∧ k' ≤ 26 * (sF S - 1) + 5 then unsV else sV S k')
    split at a
    · exfalso; omega
    · rename_i c1
      split at b
      · exfalso; omega
      · rename_i c2
        rw [if_neg c1, if_neg c2]
        exact o4 k k' hk hk' a b
theorem no_num {S' : ST} {n : N6} : vk (numV n) = 9 ∨ vk (numV n) = 10 → ∃ k, k < 26 * sF S' ∧ vk (sV S' k) = vk (numV n) ∧ vt (sV S' k) = vt (numV n) := fun q => by
  have k1 : vk (numV n) = 1 := rfl
  exfalso; omega
/-- a helper that answers a number and changes nothing that the judge sees -/
theorem bh_num {S' : ST} {s : Nat → Nat → MB} {v : W} {m : N6} {x : B64} {n : Int} (hF : sF S' = sF S) (hN : cN c = sF S) (ho : okS E t S') (h : gS B E th tp S' (cP c, cN c, cR c, s, cB c, v)) (hx : inN m x) : resG B E (0, some (n, wV (unsA S') 0 (numV m)), none, t) (bhT c s v (0, x) n) ∧ resO E t (0, some (n, wV (unsA S') 0 (numV m)), none, t) := by
  have o1 : 1 ≤ sF S := by have := ho.1; omega
  exact ⟨⟨0, _, rfl, Or.inl ⟨rfl, Or.inl (wayG_1 rfl (bh_g hF hN o1 h (gV_num hx)))⟩⟩, Int.le_refl _, wayO_1 (wV_ok (uns_ok ho) (Int.le_refl _) (by omega) okV_num no_num), wayO_0⟩
theorem same_mk {s : Nat → Nat → MB} {v : W} (h : gS B E th tp S c) (hs : s = cS c) (hv : B.1 v = B.1 (cW c) ∧ B.2.2.2.1 v = B.2.2.2.1 (cW c) ∧ B.2.2.2.2 v = B.2.2.2.2 (cW c)) : gS B E th tp S (cP c, cN c, cR c, s, cB c, v) := gS_same h ⟨⟨rfl, rfl, rfl, rfl⟩, hv⟩ hs
theorem map_g {x : VL} {s : SV} (gx : gV E (B.1 (cW c)) (B.2.2.2.2 (cW c)) (sH S) th tp x s) (ox : okV E (sF S - 1) t x) {a b : Int} (hf : wntM E x a b = 0) : isMap s ∧ mapT s = vw x ∧ (0 ≤ vw x ∧ vw x ≤ 7) ∧ (0 ≤ E.1 (vw x).toNat ∧ a ≤ E.1 (vw x).toNat ∧ E.1 (vw x).toNat ≤ b) ∧ s = (8 + (vw x).toNat, 0#64) := by
  have q : vk x = 4 ∧ a ≤ E.1 (vw x).toNat ∧ E.1 (vw x).toNat ≤ b := by simpa using (wntA_0 hf).2.2
  have e := gV_4 gx q.1
  have o := ox.2.2.2.1 q.1
  refine ⟨?_, ?_, ⟨o.1, o.2.1⟩, ⟨o.2.2, q.2.1, q.2.2⟩, e⟩
  · rw [e]
    show 8 ≤ 8 + (vw x).toNat ∧ 8 + (vw x).toNat ≤ 15
    omega
  · rw [e]
    show ((8 + (vw x).toNat : Nat) : Int) - 8 = vw x
    omega
theorem knd_g {x : VL} {k : Int} (hf : wntK x k = 0) : vk x = k := by simpa using (wntA_0 hf).2.2
end HP
