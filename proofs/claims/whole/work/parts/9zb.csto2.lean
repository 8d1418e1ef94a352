/-! ===== the class's runs: stores ===== -/
section CSTO2
variable {σ τ ρ : MS} {c c' : TC WR} {W V : WR} {w w2 x A : B64} {v : SV} {a r f b k n o s p m d : Nat} {l : List B64} {y g i : Int} {φ : Nat → Nat}
/-- what is stored -/
def stvC (σ : MS) (w : B64) : B64 := if fL w = 3 then gL σ 76 (sRr w) else iL (fI w)
theorem byJ_low (hb : b < 4) : byJ (BitVec.ofInt 64 (lI x)) b = byJ x b := by
  apply BitVec.eq_of_getLsbD_eq
  intro j hj
  rw [byJ_bit, byJ_bit]
  by_cases j8 : j < 8
  · have low : ∀ q, q < 32 → (BitVec.ofInt 64 (lI x)).getLsbD q = x.getLsbD q := fun q hq => by
      have e1 : (BitVec.ofInt 64 (lI x)).toNat % 4294967296 = x.toNat % 4294967296 := by
        rw [BitVec.toNat_ofInt]
        have := lI_mod x 32 (Or.inl rfl)
        unfold lI w32
        have n3 := toInt_c x
        rw [Int.bmod_def]
        split at n3 <;> split <;> omega
      show (BitVec.ofInt 64 (lI x)).toNat.testBit q = x.toNat.testBit q
      have t1 := Nat.testBit_mod_two_pow (BitVec.ofInt 64 (lI x)).toNat 32 q
      have t2 := Nat.testBit_mod_two_pow x.toNat 32 q
      rw [decide_eq_true hq, Bool.true_and] at t1 t2
      rw [← t1, ← t2]
      exact congrArg (fun z => Nat.testBit z q) e1
    rw [low _ (by omega)]
  · rw [decide_eq_false j8, Bool.false_and, Bool.false_and]
/-- the mark in the room -/
theorem mk_C (h : RelC σ φ c) (pk : wg (cW c) 80 105 ≤ 256) : RelC (wzS σ 27 780 ((bysN x 4).map kpW)) φ (cP c, cN c, cR c, cS c, cB c, wset (cW c) 80 106 (lI x)) := by
  obtain ⟨⟨a1, a2⟩, ⟨b1, b2, b3⟩, d, bk, ⟨l1, l2⟩, wl⟩ := h
  have len : ((bysN x 4).map kpW).length = 4 := by rw [List.length_map, bys_len]
  have g : ∀ k s, ¬ (k = 27 ∧ 780 ≤ s ∧ s < 784) → gI (wzS σ 27 780 ((bysN x 4).map kpW)) k s = gI σ k s := fun k s z => by
    rw [wzS_g, len, if_neg (by omega)]
  have gm : ∀ b, b < 4 → gI (wzS σ 27 780 ((bysN x 4).map kpW)) 27 (780 + b) = kpW (byJ x b) := fun b hb => by
    rw [wzS_g, len, if_pos ⟨rfl, by omega, by omega⟩, show 780 + b - 780 = b by omega]
    unfold bysN
    rw [List.map_map, List.getD_eq_getElem?_getD, List.getElem?_map, List.getElem?_range hb]
    rfl
  have lg := gL_2 (wzS_2 (k := 27) ((bysN x 4).map kpW) 780 σ)
  refine ⟨⟨a1, (g _ _ (by omega)).trans a2⟩, ⟨fun r hr => ⟨(b1 r hr).1, fun z => (lg _ _).trans ((b1 r hr).2 z)⟩, fun f r hf hr => ⟨(b2 f r hf hr).1, fun z => (lg _ _).trans ((b2 f r hf hr).2 z)⟩, (lg _ _).trans b3⟩, fun f b hf hb => ?_, fun f f1 f2 => (g _ _ (by omega)).trans (bk f f1 f2), ⟨fun f r z => ?_, fun f b z => ?_⟩, ?_⟩
  · rw [g _ _ (by omega)]
    exact d f b hf hb
  · show (cR c f r).1 ≤ 363 ∧ ¬ wg (wset (cW c) 80 106 (lI x)) 152 ((cR c f r).1 - 300) = 0
    rw [wg_wset_o (by decide)]
    exact l1 f r z
  · show 300 ≤ (cS c f b).2.1 → (cS c f b).2.1 ≤ 363 ∧ ¬ wg (wset (cW c) 80 106 (lI x)) 152 ((cS c f b).2.1 - 300) = 0
    rw [wg_wset_o (by decide)]
    exact l2 f b z
  · have o : ∀ k s, ¬ (k = 80 ∧ s = 106) → wg (wset (cW c) 80 106 (lI x)) k s = wg (cW c) k s := fun k s z => by rw [wg_wset, if_neg z]
    obtain ⟨hm, k4, k5, k6, k7, k8, k9, k10, k11⟩ := wl
    refine ⟨wldM_r hm (fun k s z => g _ _ (by omega)) (fun s z => g _ _ (by omega)) (fun k s z => o _ _ (by omega)), wcV_q k4 (fun s z => g _ _ (by omega)) (fun s => o _ _ (by omega)), wcQ_q k5 pk (fun s z => g _ _ (by omega)) (fun s => o _ _ (by omega)) (o _ _ (by omega)), wcZ_q k6 (fun s z => g _ _ (by omega)) (fun s z => o _ _ (by omega)), wcG_q k7 (fun s => g _ _ (by omega)) (fun s => o _ _ (by omega)), wcX_q k8 (fun s => g _ _ (by omega)) (fun s => o _ _ (by omega)) (o _ _ (by omega)), wcC_q k9 (fun s z => g _ _ (by omega)) (o _ _ (by omega)), ⟨fun b hb => ?_, fun b hb => ?_, ?_⟩, wcL_q k11 (lg _ _) (lg _ _) rfl⟩
    · rw [gm b hb, wg_wset, if_pos ⟨rfl, rfl⟩, byJ_low hb]
    · rw [g _ _ (by omega), o _ _ (by omega)]
      exact k10.2.1 b hb
    · rw [wg_wset, if_pos ⟨rfl, rfl⟩]
      unfold lI w32
      rw [Int.bmod_def]
      omega
/-- a place comes to a stack -/
theorem wrP_C (h : RelC σ φ c) (pk : wg (cW c) 80 105 ≤ 256) (hf : f < 4) (hb : b + 8 ≤ 128) (k6 : ¬ v.1 = 6) (kv : okSV v) (lv : 300 ≤ v.1 → v.1 ≤ 363 ∧ ¬ wg (cW c) 152 (v.1 - 300) = 0) : RelC (wzS σ 27 (256 + 128 * f + b) ((bysN (enK φ v) 8).map kpW)) φ (wrP c f b v) := by
  obtain ⟨⟨a1, a2⟩, ⟨b1, b2, b3⟩, d, bk, ⟨l1, l2⟩, wl⟩ := h
  have len : ((bysN (enK φ v) 8).map kpW).length = 8 := by rw [List.length_map, bys_len]
  have g : ∀ k s, ¬ (k = 27 ∧ 256 + 128 * f + b ≤ s ∧ s < 256 + 128 * f + b + 8) → gI (wzS σ 27 (256 + 128 * f + b) ((bysN (enK φ v) 8).map kpW)) k s = gI σ k s := fun k s z => by
    rw [wzS_g, len, if_neg z]
  have gm : ∀ j, j < 8 → gI (wzS σ 27 (256 + 128 * f + b) ((bysN (enK φ v) 8).map kpW)) 27 (256 + 128 * f + b + j) = kpW (byJ (enK φ v) j) := fun j hj => by
    rw [wzS_g, len, if_pos ⟨rfl, by omega, by omega⟩, show 256 + 128 * f + b + j - (256 + 128 * f + b) = j by omega]
    unfold bysN
    rw [List.map_map, List.getD_eq_getElem?_getD, List.getElem?_map, List.getElem?_range hj]
    rfl
  have lg := gL_2 (wzS_2 (k := 27) ((bysN (enK φ v) 8).map kpW) (256 + 128 * f + b) σ)
  refine ⟨⟨a1, (g _ _ (by omega)).trans a2⟩, ⟨fun r hr => ⟨(b1 r hr).1, fun z => (lg _ _).trans ((b1 r hr).2 z)⟩, fun f r hf hr => ⟨(b2 f r hf hr).1, fun z => (lg _ _).trans ((b2 f r hf hr).2 z)⟩, (lg _ _).trans b3⟩, fun f' b' hf' hb' => ?_, fun f f1 f2 => (g _ _ (by omega)).trans (bk f f1 f2), ⟨l1, fun f' b' z => ?_⟩, wldC_q wl pk (fun k s z => g _ _ (by omega)) (lg _ _) (lg _ _)⟩
  · show mbC φ _ (if f' = f ∧ b ≤ b' ∧ b' < b + 8 then (2 + (b' - b), v.1, v.2) else cS c f' b')
    by_cases q : f' = f ∧ b ≤ b' ∧ b' < b + 8
    · rw [if_pos q]
      refine ⟨fun z => ?_, fun _ _ => ⟨?_, kv, k6⟩⟩
      · have z : 2 + (b' - b) = 1 := z
        omega
      · show byW (gI _ 27 (256 + 128 * f' + b')) = byJ (enK φ v) (2 + (b' - b) - 2)
        rw [show 256 + 128 * f' + b' = 256 + 128 * f + b + (b' - b) by omega, gm _ (by omega), kpW_I (byJ_lt _ _), show 2 + (b' - b) - 2 = b' - b by omega]
    · rw [if_neg q, g _ _ (by omega)]
      exact d f' b' hf' hb'
  · have z : 2 ≤ (if f' = f ∧ b ≤ b' ∧ b' < b + 8 then (2 + (b' - b), v.1, v.2) else cS c f' b').1 := z
    show 300 ≤ (if f' = f ∧ b ≤ b' ∧ b' < b + 8 then (2 + (b' - b), v.1, v.2) else cS c f' b').2.1 → (if f' = f ∧ b ≤ b' ∧ b' < b + 8 then (2 + (b' - b), v.1, v.2) else cS c f' b').2.1 ≤ 363 ∧ ¬ wg (cW c) 152 ((if f' = f ∧ b ≤ b' ∧ b' < b + 8 then (2 + (b' - b), v.1, v.2) else cS c f' b').2.1 - 300) = 0
    by_cases q : f' = f ∧ b ≤ b' ∧ b' < b + 8
    · rw [if_pos q]
      exact lv
    · rw [if_neg q] at z ⊢
      exact l2 f' b' z
end CSTO2
