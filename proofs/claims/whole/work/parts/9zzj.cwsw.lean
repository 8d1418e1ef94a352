/-! ===== the class's plain code: exchanges ===== -/
section CWSW
variable {σ τ ρ υ ω : MS} {w w2 X Y v : B64} {m n f i j s t N K P Q d e x x' o b : Nat} {a y p q : Int} {g : Nat → B64} {c c' c1 : TC WR} {φ ψ : Nat → Nat} {st k : Nat → Int} {L : List Q4} {u : SV} {fl : Bool} {l : List B64}
theorem rdL_c : rdL RB (chg p k c) o b n = rdL RB c o b n := rdL_m n b
theorem swT_m : swT RB (chg p k c) w = (swT RB c w).map (chg p k) := by
  unfold swT
  by_cases n0 : ¬ (rdR c (sRr w)).1 = 0
  · have n0' : ¬ (rdR (chg p k c) (sRr w)).1 = 0 := n0
    rw [if_pos n0, if_pos n0']
    rfl
  · have n0' : ¬ ¬ (rdR (chg p k c) (sRr w)).1 = 0 := n0
    rw [if_neg n0, if_neg n0', rdL_c]
    have ed : rdL RB c (rdR (chg p k c) (dR w)).1 (offN (rdR (chg p k c) (dR w)).2 (fO w)).toNat (bytN w) = rdL RB c (rdR c (dR w)).1 (offN (rdR c (dR w)).2 (fO w)).toNat (bytN w) := rfl
    rw [ed]
    cases rdL RB c (rdR c (dR w)).1 (offN (rdR c (dR w)).2 (fO w)).toNat (bytN w) with
    | none => rfl
    | some l =>
      dsimp only
      by_cases c241 : fI w = 241
      · rw [if_pos c241, if_pos c241]
        by_cases q : ¬ (rdR c 0).1 = 0
        · have q' : ¬ (rdR (chg p k c) 0).1 = 0 := q
          rw [if_pos q, if_pos q']
          rfl
        · have q' : ¬ ¬ (rdR (chg p k c) 0).1 = 0 := q
          rw [if_neg q, if_neg q']
          by_cases eq : leN l = lowB (8 * bytN w) (rdR c 0).2
          · have eq' : leN l = lowB (8 * bytN w) (rdR (chg p k c) 0).2 := eq
            rw [if_pos eq, if_pos eq', wrL_m]
            have ew : wrL RB c (rdR (chg p k c) (dR w)).1 (offN (rdR (chg p k c) (dR w)).2 (fO w)).toNat (bysN (rdR (chg p k c) (sRr w)).2 (bytN w)) = wrL RB c (rdR c (dR w)).1 (offN (rdR c (dR w)).2 (fO w)).toNat (bysN (rdR c (sRr w)).2 (bytN w)) := rfl
            rw [ew]
            cases wrL RB c (rdR c (dR w)).1 (offN (rdR c (dR w)).2 (fO w)).toNat (bysN (rdR c (sRr w)).2 (bytN w)) with
            | none => rfl
            | some c1 => rfl
          · have eq' : ¬ leN l = lowB (8 * bytN w) (rdR (chg p k c) 0).2 := eq
            rw [if_neg eq, if_neg eq']
            rfl
      · rw [if_neg c241, if_neg c241, wrL_m]
        have ew : wrL RB c (rdR (chg p k c) (dR w)).1 (offN (rdR (chg p k c) (dR w)).2 (fO w)).toNat (bysN (swpX (fI w) (leN l) (rdR (chg p k c) (sRr w)).2) (bytN w)) = wrL RB c (rdR c (dR w)).1 (offN (rdR c (dR w)).2 (fO w)).toNat (bysN (swpX (fI w) (leN l) (rdR c (sRr w)).2) (bytN w)) := rfl
        rw [ew]
        cases wrL RB c (rdR c (dR w)).1 (offN (rdR c (dR w)).2 (fO w)).toNat (bysN (swpX (fI w) (leN l) (rdR c (sRr w)).2) (bytN w)) with
        | none => rfl
        | some c1 =>
          dsimp only [Option.map_some]
          by_cases od : fI w % 2 = 1
          · rw [if_pos od, if_pos od]
            rfl
          · rw [if_neg od, if_neg od]
/-- on the way through a word: x turns are behind -/
def mid (σ τ : MS) (P : Nat) (x : Nat) : Prop := mvC σ τ ∧ (∀ k z, ¬ (k = 71 ∧ z = 8) → ¬ k = 27 → gI τ k z = gI σ k z) ∧ gI τ 71 8 = ((P + x : Nat) : Int)
theorem mid_C (M : mid σ τ P x) (C : cdC σ s K N) (K3 : 153 ≤ K) (h17 : ¬ gI σ 17 s = 0) (h9 : gI σ 71 9 = 0) : cdC τ s K N ∧ ¬ gI τ 17 s = 0 ∧ gI τ 71 9 = 0 ∧ (∀ z, gI τ K z = gI σ K z) := by
  refine ⟨cdC_m M.1 (M.2.1 _ _ (by omega) (by decide)) C, ?_, (M.2.1 _ _ (by omega) (by decide)).trans h9, fun z => M.2.1 _ _ (by omega) (by omega)⟩
  rw [M.2.1 17 s (by omega) (by decide)]
  exact h17
/-- a register operation behind the first -/
theorem mid_r (M : mid σ τ P x) (C : cdC σ s K N) (K3 : 153 ≤ K) (h17 : ¬ gI σ 17 s = 0) (h9 : gI σ 71 9 = 0) (hx : P + x < N) {q : Q4} (A : opC σ K (P + x) q.1 q.2.1 q.2.2.1 q.2.2.2) (hq : ropQ q) : ∃ ρ, trs 1 τ ρ ∧ mid σ ρ P (x + 1) ∧ (∀ r, gL ρ 76 r = stpG (fun r => gL τ 76 r) q r) ∧ (∀ k z, ¬ k = 76 → gL ρ k z = gL τ k z) ∧ ∀ k z, ¬ (k = 71 ∧ z = 8) → gI ρ k z = gI τ k z := by
  obtain ⟨C1, h17', h9', gK⟩ := mid_C M C K3 h17 h9
  have A' : opC τ K (P + x) (q.1 + (if false = true then 65536 else 0)) q.2.1 q.2.2.1 q.2.2.2 := by
    rw [if_neg (by decide), Int.add_zero]
    exact opC_g gK A
  have t := T128r (fl := false) C1 M.2.2 hx A' hq
  refine ⟨_, trs_1 C1 h17' h9' t, ⟨mvC_t M.1 (mvC_t adv_mv mvC_L), fun k z y1 y2 => ?_, ?_⟩, fun r => ?_, fun k z y => ?_, fun k z y => ?_⟩
  · rw [gI_sL, adv_I y1]
    exact M.2.1 k z y1 y2
  · rw [gI_sL]
    exact adv_8
  · rw [gL_sL]
    unfold stpG
    by_cases e : r = q.2.1.toNat
    · rw [if_pos ⟨rfl, e⟩, if_pos e]
    · rw [if_neg (fun z => e z.2), if_neg e]
      exact adv_L (fun z => absurd z.1 (by decide))
  · rw [gL_sL, if_neg (fun e => y e.1)]
    by_cases e : k = 71 ∧ z = 16
    · rw [e.1, e.2, adv_16, if_neg (by decide), BitVec.add_zero]
    · exact adv_L e
  · rw [gI_sL]
    exact adv_I y
/-- a store behind the first -/
theorem mid_s (M : mid σ τ P x) (C : cdC σ s K N) (K3 : 153 ≤ K) (h17 : ¬ gI σ 17 s = 0) (h9 : gI σ 71 9 = 0) (hx : P + x < N) {r : Int} (A : opC σ K (P + x) (19 + 256 * ((bytN w : Nat) : Int)) (fD w) r (fO w)) (hr : 0 ≤ r ∧ r < 16) (hI : invW (cW c)) (rel : RelC τ φ c) (ed : gL τ 76 (dR w) + iL (fO w) = iL (1048576 + (Q : Int))) (eQ : Q = plC φ o + b) (pb : Q + bytN w ≤ 25364) (ew : wrL RB c o b (bysN (gL τ 76 r.toNat) (bytN w)) = some c1) : ∃ ρ, trs 1 τ ρ ∧ mid σ ρ P (x + 1) ∧ RelC ρ φ c1 ∧ ∀ k z, gL ρ k z = gL τ k z := by
  obtain ⟨C1, h17', h9', gK⟩ := mid_C M C K3 h17 h9
  have fr := fld_rng w
  have D : 0 ≤ fD w ∧ fD w < 16 := fr.2.1
  have b8 := byt_r (w := w)
  have A' : opC τ K (P + x) (19 + 256 * ((bytN w : Nat) : Int) + (if false = true then 65536 else 0)) (fD w) r (fO w) := by
    rw [if_neg (by decide), Int.add_zero]
    exact opC_g gK A
  have lv : ∀ k z, gL (advC τ (P + x) false) k z = gL τ k z := fun k z => by
    by_cases e : k = 71 ∧ z = 16
    · rw [e.1, e.2, adv_16, if_neg (by decide), BitVec.add_zero]
    · exact adv_L e
  have r1 : RelC (advC τ (P + x) false) φ c := RelC_e rel (fun k z y => adv_I y) (fun r _ => lv _ _) (fun k z _ => lv _ _)
  obtain ⟨_, _, r2⟩ := wrL_C _ _ _ c r1 hI (bys_lt (gL τ 76 r.toNat) (bytN w)).2 ew
  rw [← eQ] at r2
  have t9 := T189 (σ := advC τ (P + x) false) (x := gL τ 76 r.toNat) b8 pb
  have t := T128s (fl := false) C1 M.2.2 hx (show bytN w < 16 by omega) A' D hr (by
    show MM 189 [mR (some 71), mL (gL τ 76 (dR w) + iL (fO w)), mL (gL τ 76 r.toNat), mI ((bytN w : Nat) : Int)] (advC τ (P + x) false) = _
    rw [ed]
    exact t9)
  refine ⟨_, trs_1 C1 h17' h9' t, ⟨mvC_t M.1 (mvC_t adv_mv mvC_z), fun k z y1 y2 => ?_, ?_⟩, r2, fun k z => ?_⟩
  · rw [wzS_g, if_neg (fun q => y2 q.1), adv_I y1]
    exact M.2.1 k z y1 y2
  · rw [wzS_g, if_neg (fun q => absurd q.1 (by decide))]
    exact adv_8
  · rw [gL_2 (wzS_2 _ _ _)]
    exact lv k z
end CWSW
