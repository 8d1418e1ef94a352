/-! ===== the class's plain code: operations that move registers alone ===== -/
def ropQ (q : Q4) : Prop := rqok q.1 q.2.1 q.2.2.1 q.2.2.2
def stpG (g : Nat → B64) (q : Q4) : Nat → B64 := fun r => if r = q.2.1.toNat then mqV q.1 q.2.2.1 q.2.2.2 g else g r
def runG : List Q4 → (Nat → B64) → Nat → B64
  | [], g => g
  | q :: L, g => runG L (stpG g q)
/-- so many turns of a run -/
def trs : Nat → MS → MS → Prop
  | 0, σ, τ => σ = τ
  | k + 1, σ, τ => (gI σ 71 9 = 0 ∧ ¬ gI σ 17 (gI σ 71 7).toNat = 0 ∧ 0 ≤ gI σ 71 7 ∧ gI σ 71 7 < 8) ∧ ∃ ρ, MM 128 [mR (some 72), mR (some 71)] σ = some (none, ρ) ∧ trs k ρ τ
/-- these operations lie from place x on -/
def atC (σ : MS) (K : Nat) : Nat → Bool → List Q4 → Prop
  | _, _, [] => True
  | x, fl, q :: L => opC σ K x (q.1 + (if fl = true then 65536 else 0)) q.2.1 q.2.2.1 q.2.2.2 ∧ atC σ K (x + 1) false L
def stF : Bool → List Q4 → B64
  | true, _ :: _ => 1#64
  | _, _ => 0#64
def finQ (st : Nat → Int) (q : Q4) : Q4 := if 131072 ≤ q.1 then (q.1 - 131072, st q.2.1.toNat, q.2.2.1, q.2.2.2) else q
def blkR (σ τ : MS) (x : Nat) (fl : Bool) (L : List Q4) : Prop := (∀ k z, ¬ (k = 71 ∧ z = 8) → gI τ k z = gI σ k z) ∧ gI τ 71 8 = ((x + L.length : Nat) : Int) ∧ (∀ r, gL τ 76 r = runG L (fun r => gL σ 76 r) r) ∧ (∀ k z, ¬ k = 76 → ¬ (k = 71 ∧ z = 16) → gL τ k z = gL σ k z) ∧ gL τ 71 16 = gL σ 71 16 + stF fl L ∧ τ.2.2 = σ.2.2
section CBLK
variable {σ τ ρ υ ω : MS} {w w2 X Y : B64} {m n f i j s t N K P Q x : Nat} {a b c o n' y : Int} {fl : Bool} {L L1 L2 : List Q4} {g h : Nat → B64} {q : Q4} {st : Nat → Int}
theorem runG_a : ∀ (L1 : List Q4) (g : Nat → B64), runG (L1 ++ L2) g = runG L2 (runG L1 g) := by
  intro L1
  induction L1 with
  | nil => intro g; rfl
  | cons q L ih => intro g; exact ih _
theorem trs_t : ∀ (m : Nat) {σ : MS}, trs m σ ρ → trs n ρ τ → trs (m + n) σ τ := by
  intro m
  induction m with
  | zero =>
    intro σ a b
    have a : σ = ρ := a
    rw [a, Nat.zero_add]
    exact b
  | succ m ih =>
    intro σ a b
    obtain ⟨a1, υ, a2, a3⟩ := a
    rw [Nat.succ_add]
    exact ⟨a1, υ, a2, ih a3 b⟩
theorem opC_g (e : ∀ z, gI τ K z = gI σ K z) (h : opC σ K x o a b c) : opC τ K x o a b c := by
  unfold opC at h ⊢
  rw [e, e, e, e]
  exact h
theorem atC_g (e : ∀ z, gI τ K z = gI σ K z) : ∀ (L : List Q4) (x : Nat) (fl : Bool), atC σ K x fl L → atC τ K x fl L := by
  intro L
  induction L with
  | nil => intro x fl h; trivial
  | cons q L ih => intro x fl h; exact ⟨opC_g e h.1, ih _ _ h.2⟩
theorem atC_a : ∀ (L1 : List Q4) (x : Nat) (fl : Bool), atC σ K x fl (L1 ++ L2) → atC σ K x fl L1 ∧ atC σ K (x + L1.length) (if L1.length = 0 then fl else false) L2 := by
  intro L1
  induction L1 with
  | nil => intro x fl h; exact ⟨trivial, h⟩
  | cons q L ih =>
    intro x fl h
    obtain ⟨h1, h2⟩ := h
    obtain ⟨k1, k2⟩ := ih _ _ h2
    refine ⟨⟨h1, k1⟩, ?_⟩
    rw [if_neg (by intro z; cases z), show x + (q :: L).length = x + 1 + L.length by rw [List.length_cons]; omega]
    have e : (if L.length = 0 then false else false) = false := by split <;> rfl
    rw [e] at k2
    exact k2
theorem cdC_g (g7 : gI τ 71 7 = gI σ 71 7) (g74 : ∀ z, gI τ 74 z = gI σ 74 z) (e2 : τ.2.2 = σ.2.2) (h : cdC σ s K N) : cdC τ s K N := by
  obtain ⟨⟨h1, h2⟩, h3, h4, h5, h6⟩ := h
  refine ⟨⟨g7.trans h1, h2⟩, ?_, ?_, (g74 s).trans h5, h6⟩
  · have : gR τ 73 s = gR σ 73 s := by
      unfold gR
      rw [e2]
    exact this.trans h3
  · have : kd τ K = kd σ K := by
      unfold kd
      rw [e2]
    exact this.trans h4
theorem blk (K3 : 153 ≤ K) (s8 : s < 8) : ∀ (L : List Q4) (x : Nat) (fl : Bool) (σ : MS), cdC σ s K N → ¬ gI σ 17 s = 0 → gI σ 71 9 = 0 → gI σ 71 8 = (x : Int) → x + L.length ≤ N → atC σ K x fl L → (∀ q ∈ L, ropQ q) → ∃ τ, trs L.length σ τ ∧ blkR σ τ x fl L := by
  intro L
  induction L with
  | nil =>
    intro x fl σ C h17 h9 h8 hN A hr
    refine ⟨σ, rfl, fun _ _ _ => rfl, h8, fun _ => rfl, fun _ _ _ _ => rfl, ?_, rfl⟩
    cases fl
    · exact (BitVec.add_zero _).symm
    · exact (BitVec.add_zero _).symm
  | cons q L ih =>
    intro x fl σ C h17 h9 h8 hN A hr
    rw [List.length_cons] at hN
    have n71 : ¬ K = 71 := by omega
    have x1 : x < N := by omega
    have x2 : x + 1 + L.length ≤ N := by omega
    have t := T128r (fl := fl) C h8 x1 A.1 (hr q (List.mem_cons_self ..))
    obtain ⟨ρ, hρ⟩ : ∃ ρ, ρ = sL (advC σ x fl) 76 q.2.1.toNat (mqV q.1 q.2.2.1 q.2.2.2 (fun r => gL σ 76 r)) := ⟨_, rfl⟩
    rw [← hρ] at t
    have gi : ∀ k z, ¬ (k = 71 ∧ z = 8) → gI ρ k z = gI σ k z := fun k z y => by
      rw [hρ, gI_sL]
      exact adv_I y
    have g8 : gI ρ 71 8 = ((x + 1 : Nat) : Int) := by
      rw [hρ, gI_sL]
      exact adv_8
    have r2 : ρ.2.2 = σ.2.2 := by
      rw [hρ]
      exact adv_2
    have gl : ∀ k z, ¬ k = 76 → ¬ (k = 71 ∧ z = 16) → gL ρ k z = gL σ k z := fun k z y1 y2 => by
      rw [hρ, gL_sL, if_neg (fun e => y1 e.1)]
      exact adv_L y2
    have g76 : (fun r => gL ρ 76 r) = stpG (fun r => gL σ 76 r) q := funext fun r => by
      rw [hρ, gL_sL]
      unfold stpG
      by_cases e : r = q.2.1.toNat
      · rw [if_pos ⟨rfl, e⟩, if_pos e]
      · rw [if_neg (fun z => e z.2), if_neg e]
        exact adv_L (fun z => absurd z.1 (by decide))
    have l16 : gL ρ 71 16 = gL σ 71 16 + (if fl = true then 1#64 else 0#64) := by
      rw [hρ, gL_sL, if_neg (fun e => absurd e.1 (by decide))]
      exact adv_16
    obtain ⟨τ, u, v1, v2, v3, v4, v5, v6⟩ := ih (x + 1) false ρ (cdC_g (gi 71 7 (by omega)) (fun z => gi 74 z (by omega)) r2 C) (by rw [gi 17 s (by omega)]; exact h17) ((gi 71 9 (by omega)).trans h9) g8 x2 (atC_g (fun z => gi K z (fun e => n71 e.1)) _ _ _ A.2) (fun r hr' => hr r (List.mem_cons_of_mem _ hr'))
    refine ⟨τ, ⟨⟨h9, ?_, ?_, ?_⟩, ρ, t, u⟩, fun k z y => (v1 k z y).trans (gi k z y), ?_, fun r => ?_, fun k z y1 y2 => (v4 k z y1 y2).trans (gl k z y1 y2), ?_, v6.trans r2⟩
    · rw [C.1.1, Int.toNat_natCast]
      exact h17
    · rw [C.1.1]
      exact Int.natCast_nonneg s
    · rw [C.1.1]
      exact Int.ofNat_lt.mpr s8
    · rw [v2, List.length_cons]
      omega
    · rw [v3 r, g76]
      rfl
    · rw [v5, l16]
      have e : stF false L = 0#64 := by cases L <;> rfl
      rw [e, BitVec.add_zero]
      cases fl
      · rfl
      · rfl
/-- as it was laid, so it lies -/
theorem cod_at (hq : ∀ q ∈ L, qok n q) (h : codQ σ K st P L) : atC σ K P true (L.map (finQ st)) := by
  have key : ∀ (L' : List Q4) (d : Nat) (fl : Bool), (fl = true ↔ d = 0) → (∀ j, j < L'.length → d + j < L.length ∧ L.getD (d + j) q40 = L'.getD j q40) → atC σ K (P + d) fl (L'.map (finQ st)) := by
    intro L'
    induction L' with
    | nil => intro d fl _ _; trivial
    | cons q L' ih =>
      intro d fl hd hj
      obtain ⟨k1, k2⟩ := hj 0 (Nat.zero_lt_succ _)
      rw [Nat.add_zero] at k1 k2
      have k2 : L.getD d q40 = q := k2
      obtain ⟨o1, o2, o3, o4⟩ := h d k1
      have qq := hq _ (getD_m k1)
      rw [k2] at o1 o2 o3 o4 qq
      have efl : (if d = 0 then (65536 : Int) else 0) = (if fl = true then 65536 else 0) := by
        by_cases z : d = 0
        · rw [if_pos z, if_pos (hd.mpr z)]
        · rw [if_neg z, if_neg (fun y => z (hd.mp y))]
      rw [efl] at o1 o2
      have f01 : (if fl = true then (65536 : Int) else 0) = 65536 ∨ (if fl = true then (65536 : Int) else 0) = 0 := by
        split
        · exact Or.inl rfl
        · exact Or.inr rfl
      obtain ⟨F, hF⟩ : ∃ F : Int, F = (if fl = true then (65536 : Int) else 0) := ⟨_, rfl⟩
      rw [← hF] at o1 o2 f01
      refine ⟨?_, ?_⟩
      · show opC σ K (P + d) ((finQ st q).1 + (if fl = true then 65536 else 0)) (finQ st q).2.1 (finQ st q).2.2.1 (finQ st q).2.2.2
        rw [← hF]
        unfold qok at qq
        unfold fxO at o1
        unfold fxA at o2
        unfold finQ
        rcases qq with z | z
        · have n1 : ¬ 131072 ≤ q.1 := by omega
          have n2 : ¬ 131072 ≤ q.1 + F := by omega
          rw [if_neg n2] at o1 o2
          rw [if_neg n1]
          exact ⟨o1, o2, o3, o4⟩
        · have n1 : 131072 ≤ q.1 := by omega
          have n2 : 131072 ≤ q.1 + F := by omega
          rw [if_pos n2] at o1 o2
          rw [if_pos n1]
          refine ⟨o1.trans ?_, o2, o3, o4⟩
          show q.1 + F - 131072 = q.1 - 131072 + F
          omega
      · have := ih (d + 1) false ⟨fun z => (by cases z), fun z => absurd z (by omega)⟩ (fun j hj' => by
          have := hj (j + 1) (Nat.succ_lt_succ hj')
          rw [show d + 1 + j = d + (j + 1) by omega]
          exact this)
        exact this
  have := key L 0 true ⟨fun _ => rfl, fun _ => rfl⟩ (fun j hj => by
    rw [Nat.zero_add]
    exact ⟨hj, rfl⟩)
  exact this
end CBLK
