/-! ===== the class's plain code: stores ===== -/
/-- words told otherwise -/
def chg (p : Int) (k : Nat → Int) (c : TC WR) : TC WR := (p, cN c, cR c, cS c, k, cW c)
section CWST
variable {σ τ ρ υ ω : MS} {w w2 X Y v : B64} {m n f i j s t N K P Q d e x' o b : Nat} {a x y p : Int} {g : Nat → B64} {c c' : TC WR} {φ ψ : Nat → Nat} {st k : Nat → Int} {L : List Q4} {u : SV} {fl : Bool}
theorem wrB_m : wrB RB (chg p k c) o b v = (wrB RB c o b v).map (chg p k) := by
  unfold wrB
  repeat' split
  all_goals first
    | rfl
    | contradiction
    | (exfalso; omega)
theorem wrL_m : ∀ (l : List B64) (b : Nat) (c : TC WR), wrL RB (chg p k c) o b l = (wrL RB c o b l).map (chg p k) := by
  intro l
  induction l with
  | nil => intro b c; rfl
  | cons y l ih =>
    intro b c
    unfold wrL
    rw [wrB_m]
    cases h : wrB RB c o b y with
    | none => rfl
    | some c1 => exact ih _ _
theorem stoT_m : stoT RB RH (chg p k c) w = (stoT RB RH c w).map (chg p k) := by
  unfold stoT
  by_cases c1 : (rdR c (dR w)).1 = 1
  · have c1' : (rdR (chg p k c) (dR w)).1 = 1 := c1
    simp only [c1, c1', if_true]
    by_cases q : bytN w = 4 ∧ fO w = 12 ∧ (if fL w = 3 then rdR c (sRr w) else (0, BitVec.ofInt 64 (fI w))).1 = 0
    · have q' : bytN w = 4 ∧ fO w = 12 ∧ (if fL w = 3 then rdR (chg p k c) (sRr w) else (0, BitVec.ofInt 64 (fI w))).1 = 0 := q
      rw [if_pos q, if_pos q']
      rfl
    · have q' : ¬ (bytN w = 4 ∧ fO w = 12 ∧ (if fL w = 3 then rdR (chg p k c) (sRr w) else (0, BitVec.ofInt 64 (fI w))).1 = 0) := q
      rw [if_neg q, if_neg q']
      rfl
  · have c1' : ¬ (rdR (chg p k c) (dR w)).1 = 1 := c1
    simp only [c1, c1', if_false]
    by_cases q : (if fL w = 3 then rdR c (sRr w) else (0, BitVec.ofInt 64 (fI w))).1 = 0
    · have q' : (if fL w = 3 then rdR (chg p k c) (sRr w) else (0, BitVec.ofInt 64 (fI w))).1 = 0 := q
      rw [if_pos q, if_pos q']
      exact wrL_m _ _ _
    · have q' : ¬ (if fL w = 3 then rdR (chg p k c) (sRr w) else (0, BitVec.ofInt 64 (fI w))).1 = 0 := q
      rw [if_neg q, if_neg q']
      by_cases z : ((2 ≤ (rdR c (dR w)).1 ∧ (rdR c (dR w)).1 ≤ 5) ∧ bytN w = 8) ∧ ((offN (rdR c (dR w)).2 (fO w)).toNat % 8 = 0 ∧ (offN (rdR c (dR w)).2 (fO w)).toNat < 128) ∧ ¬ (if fL w = 3 then rdR c (sRr w) else (0, BitVec.ofInt 64 (fI w))).1 = 6
      · have z' : ((2 ≤ (rdR (chg p k c) (dR w)).1 ∧ (rdR (chg p k c) (dR w)).1 ≤ 5) ∧ bytN w = 8) ∧ ((offN (rdR (chg p k c) (dR w)).2 (fO w)).toNat % 8 = 0 ∧ (offN (rdR (chg p k c) (dR w)).2 (fO w)).toNat < 128) ∧ ¬ (if fL w = 3 then rdR (chg p k c) (sRr w) else (0, BitVec.ofInt 64 (fI w))).1 = 6 := z
        rw [if_pos z, if_pos z']
        rfl
      · have z' : ¬ (((2 ≤ (rdR (chg p k c) (dR w)).1 ∧ (rdR (chg p k c) (dR w)).1 ≤ 5) ∧ bytN w = 8) ∧ ((offN (rdR (chg p k c) (dR w)).2 (fO w)).toNat % 8 = 0 ∧ (offN (rdR (chg p k c) (dR w)).2 (fO w)).toNat < 128) ∧ ¬ (if fL w = 3 then rdR (chg p k c) (sRr w) else (0, BitVec.ofInt 64 (fI w))).1 = 6) := z
        rw [if_neg z, if_neg z']
        rfl
theorem sto_cP (e : stoT RB RH c w = some c') : cP c' = cP c ∧ cB c' = cB c := by
  have h := stoT_m (p := cP c) (k := cB c) (c := c) (w := w)
  have hc : chg (cP c) (cB c) c = c := rfl
  rw [hc, e] at h
  have h : some c' = some (chg (cP c) (cB c) c') := h
  have h := Option.some.inj h
  rw [h]
  exact ⟨rfl, rfl⟩
/-- a number or register is stored -/
theorem w1_S (h : RelC σ φ (bm st c)) (hI : invW (cW c)) (W : wdC σ s K N st P L) (hw : okMem w) (h23 : fL w = 2 ∨ fL w = 3) (m96 : fM w = 96) (eL : L = if fL w = 2 then [setQ 11 (fI w), memQ 19 w (fD w) 11] else [memQ 19 w (fD w) (fS w)]) (nx : st (cP c + 1).toNat = ((P + L.length : Nat) : Int)) (e : stoT RB RH (cP c, cN c, cR c, cS c, cB c, RT (cW c)) w = some c') : ∃ τ, trs L.length σ τ ∧ stq1 st σ τ φ (cP c, cN c, cR c, cS c, cB c, RT (cW c)) 0 (goT c' (cP c + 1)) := by
  have fr := fld_rng w
  have D : 0 ≤ fD w ∧ fD w < 16 := fr.2.1
  have S : 0 ≤ fS w ∧ fS w < 16 := fr.2.2.1
  have b8 := byt_r (w := w)
  have b16 : bytN w < 16 := by omega
  obtain ⟨⟨C, s8, K3⟩, h17, h9, h8, hN, A⟩ := W
  have r1 : RelC (advC σ P true) φ (cP (bm st c), cN c, cR c, cS c, cB (bm st c), RT (cW c)) := ct_C h
  obtain ⟨q1, q2⟩ := sto_cP e
  have e1 : stoT RB RH (cP (bm st c), cN c, cR c, cS c, cB (bm st c), RT (cW c)) w = some (chg (cP (bm st c)) (cB (bm st c)) c') := by
    have := stoT_m (p := cP (bm st c)) (k := cB (bm st c)) (c := (cP c, cN c, cR c, cS c, cB c, RT (cW c))) (w := w)
    rw [e] at this
    exact this
  have fin : ∀ {τ : MS}, RelC τ φ (chg (cP (bm st c)) (cB (bm st c)) c') → RelC τ φ (bm st c') := fun {τ} r => by
    have eB : (fun f => st (cB c' f).toNat) = cB (bm st c) := funext fun f => by
      rw [q2]
      rfl
    have : bm st c' = (st (cP c').toNat, cN (chg (cP (bm st c)) (cB (bm st c)) c'), cR (chg (cP (bm st c)) (cB (bm st c)) c'), cS (chg (cP (bm st c)) (cB (bm st c)) c'), cB (chg (cP (bm st c)) (cB (bm st c)) c'), cW (chg (cP (bm st c)) (cB (bm st c)) c')) := by
      unfold bm
      rw [eB]
      rfl
    rw [this]
    exact RelC_g r
  have fm : ∀ a b : Int, finQ st (memQ 19 w a b) = memQ 19 w a b := fun a b => if_neg (by show ¬ 131072 ≤ 19 + 256 * ((bytN w : Nat) : Int); omega)
  have dd : dR w ≤ 15 := by show (fD w).toNat ≤ 15; omega
  have d10 : dR w ≤ 10 := by
    show (fD w).toNat ≤ 10
    unfold okMem at hw
    rcases h23 with l | l
    · rw [if_neg (by omega), if_pos l] at hw
      omega
    · rw [if_neg (by omega), if_neg (by omega), if_pos m96] at hw
      omega
  by_cases l2 : fL w = 2
  · rw [if_pos l2] at eL
    have n2 : L.length = 2 := by rw [eL]; rfl
    rw [eL, List.map_cons, List.map_cons, fm, show finQ st (setQ 11 (fI w)) = setQ 11 (fI w) from if_neg (by show ¬ (131072 : Int) ≤ 0; decide)] at A
    have ri := rng_I (w := w)
    obtain ⟨τ1, t1, B⟩ := blk K3 s8 [setQ 11 (fI w)] P true σ C h17 h9 h8 (by show P + 1 ≤ N; omega) ⟨A.1, trivial⟩ (rq_c (rop_set (by decide)) rq_n)
    have m1 := blk_mv B
    obtain ⟨b1, b2, b3, b4, b5, b6⟩ := B
    have e11 : ∀ r, gL τ1 76 r = if r = 11 then iL (fI w) else gL σ 76 r := fun r => by
      rw [b3 r]
      show stpG (fun r => gL σ 76 r) (setQ 11 (fI w)) r = _
      rw [st_set ri.1 ri.2]
      rfl
    have g17 : gI τ1 17 s = gI σ 17 s := b1 _ _ (by omega)
    have g9 : gI τ1 71 9 = 0 := (b1 _ _ (by omega)).trans h9
    have C1 := cdC_m m1 (b1 _ _ (by omega)) C
    have b2' : gI τ1 71 8 = ((P + 1 : Nat) : Int) := b2
    have r2 : RelC (advC τ1 (P + 1) false) φ (cP (bm st c), cN c, cR c, cS c, cB (bm st c), RT (cW c)) := RelC_e r1 (fun k z y => by rw [adv_I y, adv_I y, b1 k z y]) (fun r hr => by
      rw [adv_L (fun z => absurd z.1 (by decide)), adv_L (fun z => absurd z.1 (by decide)), e11, if_neg (by omega)]) (fun k z y => by
      by_cases q : k = 71 ∧ z = 16
      · rw [q.1, q.2, adv_16, adv_16, b5, if_neg (by decide), if_pos rfl, BitVec.add_zero]
        rfl
      · rw [adv_L q, adv_L q, b4 k z y q])
    obtain ⟨τ, t, rel, mv, gz⟩ := st_C r2 (inv_ch hI) hw h23 m96 e1
    have eD : gL (advC τ1 (P + 1) false) 76 (dR w) = gL τ1 76 (dR w) := adv_L (fun z => absurd z.1 (by decide))
    have eS : stvC (advC τ1 (P + 1) false) w = gL τ1 76 (Int.toNat 11) := by
      unfold stvC
      rw [if_neg (by omega)]
      exact ((e11 11).trans (if_pos rfl)).symm
    rw [eD, eS] at t
    have t2 := T128s (x := P + 1) (fl := false) (a := fD w) (b := 11) (c := fO w) C1 b2' (by omega) b16 (opC_g (fun z => b1 K z (fun e => by omega)) A.2.1) D (by decide) t
    have u2 := trs_1 C1 (by rw [g17]; exact h17) g9 t2
    have g8 : gI τ 71 8 = ((P + 2 : Nat) : Int) := (gz 71 8 (by decide)).trans adv_8
    have g9' : gI τ 71 9 = 0 := (gz 71 9 (by decide)).trans ((adv_I (by omega)).trans g9)
    refine ⟨τ, by rw [n2]; exact trs_t 1 t1 u2, w1_q (L := L) (mvC_t m1 (mvC_t adv_mv mv)) (fin rel) (by rw [n2]; exact g8) g9' nx⟩
  · have l3 : fL w = 3 := by omega
    rw [if_neg l2] at eL
    have n1 : L.length = 1 := by rw [eL]; rfl
    rw [eL, List.map_cons, fm] at A
    obtain ⟨τ, t, rel, mv, gz⟩ := st_C r1 (inv_ch hI) hw h23 m96 e1
    have eD : gL (advC σ P true) 76 (dR w) = gL σ 76 (dR w) := adv_L (fun z => absurd z.1 (by decide))
    have eS : stvC (advC σ P true) w = gL σ 76 (fS w).toNat := by
      unfold stvC
      rw [if_pos l3]
      exact adv_L (fun z => absurd z.1 (by decide))
    rw [eD, eS] at t
    have t2 := T128s (x := P) (fl := true) (a := fD w) (b := fS w) (c := fO w) C h8 (by omega) b16 A.1 D S t
    have u2 := trs_1 C h17 h9 t2
    have g8 : gI τ 71 8 = ((P + 1 : Nat) : Int) := (gz 71 8 (by decide)).trans adv_8
    have g9' : gI τ 71 9 = 0 := (gz 71 9 (by decide)).trans ((adv_I (by omega)).trans h9)
    refine ⟨τ, by rw [n1]; exact u2, w1_q (L := L) (mvC_t adv_mv mv) (fin rel) (by rw [n1]; exact g8) g9' nx⟩
end CWST
